/**
 * Each promise of the document by answers worked out by hand: ordinary inputs,
 * the edges that the document names, and wrong inputs.
 */
public final class PromiseTests {
    private static final int UNKNOWN = -1, BAD = -2, LATE = -3, FULL = -4, NONE = -9;

    private static int promise;
    private static int wrong;

    private static void due(String what, long got, long want) {
        if (got != want) {
            wrong++;
            System.out.println("promise " + promise + ": " + what + " answered " + got + ", due is " + want);
        }
    }

    private static void tell(StarRight x, String text) {
        x.wipe();
        for (char c : text.toCharArray()) x.write(c);
    }

    private static StarRight night(String text) {
        StarRight x = new StarRight();
        tell(x, text);
        if (x.night() < 0) {
            wrong++;
            System.out.println("promise " + promise + ": no night is " + text);
        }
        return x;
    }

    private static void newObject() {
        promise = 1;
        StarRight x = new StarRight();
        for (int what = 0; what <= 9; what++) due("about(" + what + ")", x.about(what), 0);
        due("roof", x.roof(0, 0), UNKNOWN);
        due("star", x.star(0, 0), UNKNOWN);
        for (int l = 0; l < 4; l++) due("purse", x.purse(l), 0);
        due("undo", x.undo(), LATE);
        due("again", x.again(0), LATE);
        due("again", x.again(1), LATE);
        due("found", x.found(0), 40);
        due("seed", x.seed(0), 0);
        due("UNKNOWN", StarRight.UNKNOWN, -1);
        due("BAD", StarRight.BAD, -2);
        due("LATE", StarRight.LATE, -3);
        due("FULL", StarRight.FULL, -4);
        due("NONE", StarRight.NONE, -9);
    }

    private static void writing() {
        promise = 2;
        StarRight x = new StarRight();
        due("write(-1)", x.write(-1), BAD);
        due("write(256)", x.write(256), BAD);
        due("write(min)", x.write(Integer.MIN_VALUE), BAD);
        due("about(9)", x.about(9), 0);
        due("write(0)", x.write(0), 1);
        due("write(255)", x.write(255), 2);
        for (int i = 3; i <= 48; i++) due("write", x.write('R'), i);
        due("49th", x.write('R'), FULL);
        due("49th, no byte", x.write(256), BAD);
        due("about(9)", x.about(9), 48);

        promise = 3;
        due("wipe", x.wipe(), 48);
        due("wipe", x.wipe(), 0);
        due("write", x.write('N'), 1);
        due("wipe", x.wipe(), 1);
        due("about(9)", x.about(9), 0);
    }

    private static void fault(String text, int want) {
        StarRight x = new StarRight();
        tell(x, text);
        due("fault of " + text, x.fault(), want);
        due("and its length", x.about(9), text.length());
    }

    private static void faults() {
        promise = 4;
        fault("", 0);
        fault("N", 1);
        fault("n0", 0);
        fault("R", 0);
        fault("N3", 1);
        fault("N/", 1);
        fault("NN", 1);
        fault("N0", NONE);
        fault("N2", NONE);
        fault("N0N", 2);
        fault("N0r", 2);
        fault("N0 ", 2);
        fault("N0R", 3);
        fault("N0R:", 3);
        fault("N0R9", 4);
        fault("N0R9R", 4);
        fault("N0R99", 5);
        fault("N0R992", 5);
        fault("N0R991", 6);
        fault("N0R9914", 6);
        fault("N0R9913", NONE);
        fault("N0R0000", NONE);
        fault("N0R9913R9", 8);
        fault("N0R9913R", 8);
        fault("N0R9913S", 8);
        fault("N0R9913S9", 9);
        fault("N0S", 3);
        fault("N0SS", 3);
        fault("N0S9", 4);
        fault("N0S94", 4);
        fault("N0S93", 5);
        fault("N0S930", 5);
        fault("N0S93:", 5);
        fault("N0S939", NONE);
        fault("N0S001S001", NONE);
        fault("N0S001R5000S002R4000", NONE);
        fault("N0S001R5000S002R5000", 16);
        fault("N1R0000R1000R2000R3000R4000", NONE);
        fault("N1R0000R1000R2000R3000R4000R", 27);
        fault("N1R0000R1000R2000R3000R4000S", 28);
        fault("N1S001S001S001S001", NONE);
        fault("N1S001S001S001S001S", 18);
        fault("N1S001S001S001S001R", 19);
        fault("N1R0000R1000R2000R3000R4000S001S001S001S001", NONE);
        fault("N1R0000R1000R2000R3000R4000S001S001S001S001RRRRR", 43);
        fault("N9xxxxxxxxxxxxxxxxxxxxxxxxxxxxxxxxxxxxxxxxxxxxxx", 1);
    }

    private static void nights() {
        promise = 5;
        StarRight x = new StarRight();
        due("no text", x.night(), LATE);
        tell(x, "N2R5913R0402S107S318S009");
        due("night", x.night(), 23);
        due("the text stays", x.about(9), 24);
        due("law", x.about(2), 2);
        x.seed(77);
        x.shine(1, 1, true);
        x.hour();
        x.clouds();
        x.keep(0);
        x.keep(1);
        due("acts", x.about(7), 2);
        tell(x, "N1R");
        due("a fault", x.night(), LATE);
        due("law stays", x.about(2), 2);
        due("hour stays", x.about(3), 1);
        due("acts stay", x.about(7), 2);
        due("kept stays", x.again(1), 1);
        due("star pays behind the refusal", x.star(2, 2), 9);
        due("purse", x.purse(2) > 0 ? 1 : 0, 1);
        x.clouds();
        tell(x, "N1S555");
        due("S5, fast 5", x.night(), LATE);
        tell(x, "N1S535");
        due("night", x.night(), 1);
        for (int what : new int[] {0, 3, 4, 5, 6, 7}) due("about(" + what + ")", x.about(what), 0);
        due("law", x.about(2), 1);
        due("shone stays", x.about(8), 1);
        due("seed stays", x.seed(0), 77);
        due("purse", x.purse(2), 0);
        due("undo", x.undo(), LATE);
        due("kept is gone", x.again(0), LATE);
        due("kept is gone", x.again(1), LATE);
        due("the same again", x.night(), 1);
    }

    /** Roof 0 on 4 shades 1 on 5 and not 2 on 3; 3 on 6 is two cells from it. */
    private static final String SHADES = "N0R4900R5510R3611R6403";

    private static void asking() {
        promise = 6;
        StarRight x = night(SHADES + "S409");
        due("about(0)", x.about(0), 4);
        due("about(1)", x.about(1), 1);
        due("about(2)", x.about(2), 0);
        due("about(4)", x.about(4), 0);
        due("smoke", x.about(5), 6);
        due("shaded", x.about(6), 2);
        due("text", x.about(9), 26);
        due("about(10)", x.about(10), BAD);
        due("about(-1)", x.about(-1), BAD);
        x.build(0, 8);
        due("8 is not more than 3 above 5", x.about(6), 0);
        x.clouds();
        x.hour();
        due("hour", x.about(3), 1);
        due("clouds", x.about(4), 1);
        due("acts", x.about(7), 3);
        x.shine(0, 0, false);
        due("shone", x.about(8), 1);

        promise = 7;
        x = night(SHADES + "S409S411S531S301");
        due("cell", x.roof(2, 0), 3);
        due("height", x.roof(2, 1), 6);
        due("owner", x.roof(3, 2), 3);
        due("sees two down and up", x.roof(0, 3), 0b0001111100);
        due("is shaded", x.roof(1, 3), 0);
        due("sees one", x.roof(2, 3), 0b0000011100);
        due("height 4 sees one", x.roof(3, 3), 0b0011100000);
        x.build(3, 3);
        due("height 3 sees its own", x.roof(3, 3), 0b0001000000);
        due("holds", x.roof(0, 4), 0b0111);
        due("holds", x.roof(2, 4), 0b1000);
        x.clouds();
        due("holds below clouds", x.roof(0, 4), 0b0111);
        due("no roof", x.roof(4, 0), UNKNOWN);
        due("no roof", x.roof(-1, 0), UNKNOWN);
        due("no roof ahead of bad", x.roof(4, 9), UNKNOWN);
        due("bad", x.roof(3, 5), BAD);
        due("bad", x.roof(3, -1), BAD);
        x = night("N0R0900R9801");
        due("the row has an end below", x.roof(0, 3), 0b0000000111);
        due("the row has an end above", x.roof(1, 3), 0b1110000000);
        x = night("N0R0000R9900");
        due("0 is not beside 9", x.about(6), 0);
    }

    private static void stars() {
        promise = 8;
        StarRight x = night("N0R4401R6410R3002S539S832S502");
        due("over", x.star(0, 0), 5);
        due("fast", x.star(0, 1), 3);
        due("worth", x.star(0, 2), 9);
        due("as near and as high: the lesser", x.star(0, 3), 0);
        due("the smoke of 6 is not beside 4", x.star(0, 4), 9);
        due("no holder", x.star(1, 3), NONE);
        due("no holder, no pay", x.star(1, 4), 0);
        x.hour();
        due("over the next", x.star(0, 0), 8);
        due("0 behind 9", x.star(1, 0), 1);
        x.build(0, 5);
        due("as near: the lower", x.star(2, 3), 1);
        due("its own smoke", x.star(2, 4), 1);
        x.light(1);
        due("no smoke", x.star(2, 4), 2);
        x.clouds();
        due("held below clouds", x.star(2, 3), 1);
        due("no pay below clouds", x.star(2, 4), 0);
        due("no star", x.star(3, 0), UNKNOWN);
        due("no star", x.star(-1, 0), UNKNOWN);
        due("no star ahead of bad", x.star(3, 7), UNKNOWN);
        due("bad", x.star(2, 5), BAD);
        due("bad", x.star(2, -1), BAD);

        // Over 5: 0 on 4 is one off and 8 high, 1 on 7 two off and 9 high, 2 on 3 two off and 8 high.
        String three = "R4800R7900R3800S505";
        due("the nearest", night("N0" + three).star(0, 3), 0);
        due("the highest", night("N1" + three).star(0, 3), 1);
        due("the lowest, the lesser", night("N2" + three).star(0, 3), 0);
        due("the highest, the lesser", night("N1R7900R4900S505").star(0, 3), 0);
        due("the lowest", night("N2R7900R4800S505").star(0, 3), 1);
        // Three smoke on 3, 4, 5: all beside 4.
        due("smoke takes all", night("N0R4410R3410R5410S403").star(0, 4), 0);
        due("smoke takes no more", night("N0R4410R3410R5410S402").star(0, 4), 0);
        due("smoke takes three", night("N0R4410R3410R5410S404").star(0, 4), 1);
        due("smoke of a shaded roof", night("N0R4900R5010S404").star(0, 4), 3);
    }

    private static void purses() {
        promise = 9;
        StarRight x = night("N0R4403S405");
        due("purse", x.purse(3), 0);
        x.hour();
        x.hour();
        due("purse", x.purse(3), 10);
        due("purse", x.purse(0), 0);
        due("purse(4)", x.purse(4), UNKNOWN);
        due("purse(-1)", x.purse(-1), UNKNOWN);
    }

    private static void acts() {
        promise = 10;
        StarRight x = night("N0R4403R6212S405");
        due("no roof", x.build(2, 1), UNKNOWN);
        due("no roof", x.build(-1, 11), UNKNOWN);
        due("too high", x.build(0, 10), BAD);
        due("too low", x.build(0, -1), BAD);
        due("as it is", x.build(0, 4), LATE);
        due("no act yet", x.about(7), 0);
        due("higher", x.build(0, 9), 4);
        due("lower", x.build(0, 0), 9);
        due("height", x.roof(0, 1), 0);
        due("acts", x.about(7), 2);

        promise = 11;
        due("lit", x.light(0), 1);
        due("lit", x.about(5), 3);
        due("out", x.light(1), 0);
        due("out", x.about(5), 1);
        due("no roof", x.light(2), UNKNOWN);
        due("no roof", x.light(-1), UNKNOWN);
        due("acts", x.about(7), 4);

        promise = 12;
        due("sold", x.sell(0, 1), 3);
        due("sold", x.roof(0, 2), 1);
        due("its own", x.sell(0, 1), LATE);
        due("no landlord", x.sell(0, 4), UNKNOWN);
        due("no landlord", x.sell(0, -1), UNKNOWN);
        due("no roof", x.sell(2, 0), UNKNOWN);
        due("acts", x.about(7), 5);
        due("purses are not sold", x.purse(3), 0);

        promise = 13;
        due("clouds", x.clouds(), 1);
        due("clouds", x.about(4), 1);
        due("clouds", x.clouds(), 0);
        due("acts", x.about(7), 7);

        promise = 14;
        x = night("N0R4412R8801S405S911S233");
        // 2 on 3 and star 1 on 0 come by: hour 0 over 4, 9, 2; hour 1 over 4, 0, 5; hour 2 over 4, 1, 8.
        due("hour", x.hour(), 4 + 1 + 0);
        due("hour", x.hour(), 4 + 0 + 2);
        x.clouds();
        due("clouded", x.hour(), 0);
        x.clouds();
        due("hour", x.about(3), 3);
        due("purse", x.purse(2), 4 + 6);
        due("purse", x.purse(1), 1);
        due("acts", x.about(7), 5);
    }

    private static void undoing() {
        promise = 15;
        StarRight x = night("N0R4412R8801S405S911S233");
        x.hour();
        x.sell(0, 3);
        x.hour();
        x.build(0, 0);
        x.light(0);
        x.clouds();
        x.hour();
        due("purse of the buyer", x.purse(3), 6);
        due("undo an hour", x.undo(), 6);
        due("hour", x.about(3), 2);
        due("undo clouds", x.undo(), 5);
        due("clouds", x.about(4), 0);
        due("undo smoke", x.undo(), 4);
        due("smoke", x.about(5), 1);
        due("undo building", x.undo(), 3);
        due("height", x.roof(0, 1), 4);
        due("undo an hour", x.undo(), 2);
        due("purse of the buyer", x.purse(3), 0);
        due("hour", x.about(3), 1);
        due("undo the sale", x.undo(), 1);
        due("owner", x.roof(0, 2), 2);
        due("undo an hour", x.undo(), 0);
        due("purse", x.purse(2), 0);
        due("purse", x.purse(1), 0);
        due("hour", x.about(3), 0);
        due("none left", x.undo(), LATE);
        for (int h = 0; h < 15; h++) x.build(0, h % 4);
        due("no more than 14", x.about(7), 14);
        for (int left = 13; left >= 0; left--) due("undo", x.undo(), left);
        due("the first is forgotten", x.undo(), LATE);
        due("height behind the first", x.roof(0, 1), 0);
    }

    private static void rents() {
        promise = 16;
        // As in promise 14: hour 3 over 4, 2, 1; 4: 4, 3, 4; 5: 4, 4, 7; 6: 4, 5, 0; 7: 4, 6, 3.
        StarRight x = night("N0R4412R8801S405S911S233");
        due("no hours", x.rents(2, 0), 0);
        due("one", x.rents(2, 1), 4);
        due("of all", x.rents(4, 1), 5);
        due("two", x.rents(4, 2), 11);
        due("six", x.rents(2, 6), 4 + 6 + 4 + 4 + (4 + 0 + 2) + (4 + 0));
        due("six", x.rents(1, 6), 1 + 0 + 3 + 0 + 0 + 3);
        due("of none", x.rents(0, 12), 0);
        x.hour();
        due("from the hour on", x.rents(4, 1), 6);
        due("nothing is changed", x.about(3), 1);
        due("nor a purse", x.purse(2), 4);
        x.clouds();
        due("clouded", x.rents(4, 12), 0);
        due("no landlord", x.rents(5, 1), UNKNOWN);
        due("no landlord", x.rents(-1, 13), UNKNOWN);
        due("too many", x.rents(4, 13), BAD);
        due("too few", x.rents(0, -1), BAD);
    }

    private static void holding() {
        promise = 17;
        // Over 0 .. 9 by hours; 0 sees 0 .. 4, 1 sees 4 .. 8, 2 sees 9, 3 sees 5 alone.
        StarRight x = night("N0R2800R6900R9000R5600S012S501S002");
        due("cells 0 .. 4", x.hold(0, 5), 1);
        due("cells 0 .. 8", x.hold(0, 9), 3);
        due("all cells", x.hold(0, 10), 7);
        due("one cell, the lesser roof", x.hold(1, 10), 2);
        x.build(3, 4);
        due("3 is in the shade, all standing", x.hold(1, 1), 2);
        x.build(1, 3);
        due("3 sees 4 .. 6", x.hold(1, 1), 8);
        due("over 7 none sees", x.hold(0, 8), NONE);
        x.clouds();
        due("clouds hide nothing here", x.hold(0, 4), 1);
        due("no star", x.hold(3, 1), UNKNOWN);
        due("no star", x.hold(-1, 0), UNKNOWN);
        due("no hours", x.hold(0, 0), BAD);
        due("too many", x.hold(0, 11), BAD);
        x = night("N0R4900R3500R5500R6900S415");
        due("one of fewest ahead of lesser bits", x.hold(0, 3), 1);
        x.hour();
        due("from the hour on: 5 .. 8", x.hold(0, 4), 8);
    }

    private static void fires() {
        promise = 18;
        // Star of 3 held by 0 on 4 in each hour; 1 on 5 is beside it; 2 on 9 is by itself.
        StarRight x = night("N0R4410R5010R9002S403");
        due("fires: 2 alone costs nothing", x.fires(1, 0), 4);
        due("how much", x.fires(1, 1), 4);
        due("how much", x.fires(10, 1), 40);
        due("nothing is changed", x.about(5), 3);
        due("nothing is changed", x.star(0, 4), 1);
        x.clouds();
        due("clouded: all", x.fires(2, 0), 7);
        due("clouded: all", x.fires(2, 1), 6);
        x.clouds();
        // A star of 1 is gone by one smoke; the second one then costs nothing.
        x = night("N0R4400R5000S401");
        due("the second one is free", x.fires(1, 0), 3);
        due("the second one is free", x.fires(1, 1), 2);
        // Worth 2: none 2, one 2, both 2: fewest.
        x = night("N0R4400R5000S402");
        due("fewest", x.fires(3, 0), 0);
        due("fewest", x.fires(3, 1), 6);
        // Two stars of 1, one over 4 and one over 5, held by 0 and 1: none 2, one 1, both 2.
        x = night("N0R4000R5000S401S501");
        due("fewest", x.fires(1, 0), 0);
        due("no hours", x.fires(0, 0), BAD);
        due("too many", x.fires(11, 0), BAD);
        due("what", x.fires(1, 2), BAD);
        due("what", x.fires(1, -1), BAD);
    }

    private static void share(StarRight x, int roof, int n, int upper, int lower) {
        due("share(" + roof + ") above", x.share(roof, n, true), upper);
        due("share(" + roof + ") below", x.share(roof, n, false), lower);
    }

    private static void shares() {
        promise = 19;
        // Both see the star: the first to come brings 3.
        StarRight x = night("N0R4400R5401S403");
        share(x, 0, 1, 3, 2);
        share(x, 1, 1, 3, 2);
        share(x, 1, 4, 6, 1);
        due("nothing is changed", x.about(0), 2);
        x.clouds();
        share(x, 0, 1, 0, 1);
        // 1 sees nothing and smokes: it comes second in half of the orders and takes 1.
        x = night("N0R4400R5010S403");
        share(x, 0, 1, 5, 2);
        share(x, 1, 1, -1, 2);
        // 1 shades 0, and sees the star itself from 5: alone 4 each, both 4.
        x = night("N0R4400R5900S404");
        share(x, 0, 1, 2, 1);
        // 2 roofs far off change nothing.
        x = night("N0R4400R5010S403R0000R8000");
        share(x, 1, 1, -1, 2);
        share(x, 2, 5, 0, 1);
        due("no roof", x.share(4, 1, true), UNKNOWN);
        due("no roof", x.share(-1, 0, true), UNKNOWN);
        due("no hours", x.share(0, 0, false), BAD);
        due("too many", x.share(0, 11, true), BAD);
    }

    private static void laws() {
        promise = 20;
        // Over 5: near is 0 (0's), high is 1 (1's), low is 2 (2's).
        StarRight x = night("N0R5900R4801R6402S504");
        due("2 is in the shade of 5, so 1 is the lowest", x.bestLaw(1, 1), 2);
        x.build(0, 7);
        due("near", x.bestLaw(0, 1), 0);
        due("high", x.bestLaw(1, 1), 1);
        due("low", x.bestLaw(2, 1), 2);
        due("of like ones the least", x.bestLaw(3, 12), 0);
        due("no hours", x.bestLaw(2, 0), 0);
        x.clouds();
        due("clouded", x.bestLaw(2, 5), 0);
        due("the law stays", x.about(2), 0);
        due("all are no landlord", x.bestLaw(4, 1), UNKNOWN);
        due("no landlord", x.bestLaw(-1, 13), UNKNOWN);
        due("too many", x.bestLaw(0, 13), BAD);
        due("too few", x.bestLaw(0, -1), BAD);
    }

    private static void starless() {
        promise = 21;
        StarRight x = night("N0R4402R8801S405S021");
        // Star 1 over 0, 2, 4, 6, 8: landlord 2 holds star 0, landlord 1 holds star 1 from hour 3.
        due("1 has none yet", x.starless(3), 1);
        due("all have one", x.starless(4), NONE);
        x.clouds();
        due("clouds do not count", x.starless(4), NONE);
        x.hour();
        due("from the hour on", x.starless(3), NONE);
        x.sell(1, 2);
        due("1 has no roof", x.starless(1), NONE);
        x.sell(0, 0);
        x.build(0, 0);
        due("0 still holds its own cell", x.starless(1), 2);
        due("no hours", x.starless(0), BAD);
        due("too many", x.starless(11), BAD);
        due("no roofs", new StarRight().starless(1), NONE);
    }

    private static void resting() {
        promise = 22;
        // Nothing shines: each is lowest.
        StarRight x = night("N0R2500R7700");
        due("one", x.rests(0, 1, 3, 0), 1);
        due("none builds", x.rests(0, 1, 3, 1), 0);
        // A star of 9 over 3 in each hour; 0 on 2 needs 4 to see it, 1 on 7 needs 16.
        x = night("N0R2000R7000S309");
        due("one", x.rests(0, 1, 1, 0), 1);
        due("the first builds", x.rests(0, 1, 1, 1), 40);
        due("the other way", x.rests(1, 0, 1, 1), 4);
        due("nothing is changed", x.roof(0, 1), 0);
        due("two hours", x.rests(0, 1, 2, 1), 40);
        x.clouds();
        due("clouded", x.rests(0, 1, 2, 1), 0);
        // The highest one takes it: each goes one above the other, none rests.
        x = night("N1R2000R4000S309");
        due("9 less 5 is more than nothing", x.rests(0, 1, 1, 0), 0);
        due("none", x.rests(0, 1, 1, 1), NONE);
        due("no roof", x.rests(0, 2, 1, 0), UNKNOWN);
        due("no roof", x.rests(-1, -1, 0, 0), UNKNOWN);
        due("both are one", x.rests(1, 1, 1, 0), BAD);
        due("no hours", x.rests(0, 1, 0, 0), BAD);
        due("too many", x.rests(0, 1, 11, 0), BAD);
        due("what", x.rests(0, 1, 1, 2), BAD);
        due("what", x.rests(0, 1, 1, -1), BAD);
    }

    private static void shining() {
        promise = 23;
        StarRight x = new StarRight();
        due("cell", x.shine(-1, 0, true), BAD);
        due("cell", x.shine(10, 0, true), BAD);
        due("hour", x.shine(0, -1, true), BAD);
        due("hour", x.shine(0, 10, true), BAD);
        for (int i = 1; i <= 6; i++) due("shine", x.shine(9, 9, false), i);
        due("7th", x.shine(0, 0, true), FULL);
        due("7th, no cell", x.shine(10, 0, true), BAD);

        promise = 24;
        due("unshine", x.unshine(), 6);
        due("unshine", x.unshine(), 0);
        due("found", x.found(0), 40);

        promise = 25;
        due("the first one", x.found(1), 0);
        due("what", x.found(2), BAD);
        due("what", x.found(-1), BAD);
        x.shine(7, 0, true);
        due("four are over 7 at first", x.found(0), 4);
        due("the first one", x.found(1), 70);
        x.shine(7, 1, false);
        due("the slowest is not", x.found(1), 71);
        x.shine(6, 3, true);
        due("73 is over 6 at hour 3", x.found(1), 73);
        due("one", x.found(0), 1);
        x.shine(6, 3, false);
        due("not both", x.found(0), 0);
        due("none", x.found(1), NONE);

        promise = 26;
        due("none is found", x.look(), NONE);
        x.unshine();
        due("40, four over each cell at hour 0", x.look(), 0);
        x.shine(7, 0, true);
        // Over 7, 8, 9, 0 at hour 1; over 7, 9, 1, 3 at hour 2; at hour 5 two over 7, two over 2.
        due("parted two and two", x.look(), 52);
        x.shine(7, 5, true);
        // 70 and 72 are left: at hour 1 over 7 and 9.
        due("parted one and one", x.look(), 17);
        x.shine(9, 1, true);
        due("one alone can not be parted", x.look(), 0);
        due("nothing is told by looking", x.about(8), 3);
    }

    private static void chance(StarRight x, int star, int n, int tenths, int upper, int lower) {
        due("chance(" + star + ", " + n + ", " + tenths + ") above", x.chance(star, n, tenths, true), upper);
        due("chance(" + star + ", " + n + ", " + tenths + ") below", x.chance(star, n, tenths, false), lower);
    }

    private static void chances() {
        promise = 27;
        // Star 0 pays always; star 1 over 4, 7, 0, 3 pays at hour 0 and 3; star 2 is worth its smoke.
        StarRight x = night("N0R4412S405S433S401");
        chance(x, 0, 1, 0, 1, 1);
        chance(x, 0, 1, 5, 1, 2);
        chance(x, 0, 6, 10, 0, 1);
        chance(x, 0, 2, 9, 19, 100);
        chance(x, 0, 6, 1, 999999, 1000000);
        chance(x, 1, 3, 4, 3, 5);
        chance(x, 1, 4, 4, 21, 25);
        chance(x, 2, 6, 3, 0, 1);
        chance(x, 2, 1, 0, 0, 1);
        x.clouds();
        chance(x, 1, 3, 4, 3, 5);
        x.hour();
        chance(x, 1, 2, 4, 0, 1);
        chance(x, 1, 3, 4, 3, 5);
        due("no star", x.chance(3, 1, 1, true), UNKNOWN);
        due("no star", x.chance(-1, 0, 11, true), UNKNOWN);
        due("no hours", x.chance(0, 0, 1, true), BAD);
        due("too many", x.chance(0, 7, 1, true), BAD);
        due("tenths", x.chance(0, 1, -1, true), BAD);
        due("tenths", x.chance(0, 1, 11, true), BAD);
    }

    private static void seeds() {
        promise = 28;
        StarRight x = night("N0R4402S405");
        due("at first", x.seed(5), 0);
        due("it was", x.seed(Long.MIN_VALUE), 5);
        due("it was", x.seed(-1), Long.MIN_VALUE);

        promise = 29;
        // 107 becomes what has 2133017910 in its upper 31 bits: by 3 nothing is left.
        x.seed(107);
        due("clouds ahead of the first hour", x.nights(1), 0);
        due("the seed", x.seed(0), -124259734757594850L);
        // 0 becomes 1442695040888963407, with 167951807: by 3 2 is left.
        x.clouds();
        due("no clouds, whatever there is now", x.nights(1), 5);
        due("clouds are as they were", x.about(4), 1);
        due("nothing is paid", x.purse(2), 0);
        due("the hour stays", x.about(3), 0);
        due("no act", x.about(7), 1);
        due("no hours", x.nights(0), BAD);
        due("too many", x.nights(31), BAD);
        due("the seed stays", x.seed(0), 1442695040888963407L);
        int one = 0;
        for (int i = 0; i < 30; i++) one += x.nights(1);
        long then = x.seed(0);
        due("thirty at once", x.nights(30), one);
        due("the seed", x.seed(0), then);
        x = night("N0R4002S415");
        x.seed(0);
        due("it pays in the first hour alone", x.nights(2), 5);
        x.hour();
        x.seed(0);
        due("from the hour on", x.nights(2), 0);
    }

    private static void slots() {
        promise = 30;
        StarRight x = night("N2R4402R7013S405S711");
        x.hour();
        due("no slot", x.keep(2), UNKNOWN);
        due("no slot", x.keep(-1), UNKNOWN);
        due("keep", x.keep(1), 1);
        due("no act", x.about(7), 1);
        x.hour();
        x.clouds();
        x.build(0, 9);
        x.light(1);
        x.sell(1, 0);
        due("keep", x.keep(0), 2);
        due("acts stay", x.about(7), 6);

        promise = 31;
        due("no slot", x.again(2), UNKNOWN);
        due("no slot", x.again(-1), UNKNOWN);
        due("again", x.again(1), 1);
        due("hour", x.about(3), 1);
        due("clouds", x.about(4), 0);
        due("height", x.roof(0, 1), 4);
        due("smoke", x.about(5), 2);
        due("owner", x.roof(1, 2), 3);
        due("purse", x.purse(2), 5);
        due("no acts", x.about(7), 0);
        due("no acts", x.undo(), LATE);
        x.build(0, 1);
        due("again", x.again(1), 1);
        due("what was kept stays as it was", x.roof(0, 1), 4);
        due("the other", x.again(0), 2);
        due("clouds", x.about(4), 1);
        due("height", x.roof(0, 1), 9);
        due("smoke", x.about(5), 0);
        due("owner", x.roof(1, 2), 0);
        due("purse", x.purse(2), 10);
        x = night("N0R4402");
        due("keep", x.keep(0), 0);
        due("none kept", x.again(1), LATE);
        due("seed and shone are not kept", x.seed(3) + x.shine(1, 1, true), 1);
        due("again", x.again(0), 0);
        due("seed", x.seed(0), 3);
        due("shone", x.about(8), 1);
    }

    /** What README.md tells of one night. */
    private static void readme() {
        promise = 0;
        StarRight x = new StarRight();
        tell(x, "N0R4402S405");
        due("README: fault", x.fault(), NONE);
        due("README: night", x.night(), 11);
        due("README: holder", x.star(0, 3), 0);
        due("README: hour", x.hour(), 5);
        due("README: purse", x.purse(2), 5);
        due("README: rents", x.rents(4, 12), 60);
        due("README: undo", x.undo(), 0);
        due("README: purse", x.purse(2), 0);
        due("README: no landlord", x.purse(7), UNKNOWN);
    }

    public static void main(String[] args) {
        readme();
        newObject();
        writing();
        faults();
        nights();
        asking();
        stars();
        purses();
        acts();
        undoing();
        rents();
        holding();
        fires();
        shares();
        laws();
        starless();
        resting();
        shining();
        chances();
        seeds();
        slots();
        System.out.println(wrong == 0 ? "all promises are kept" : wrong + " answers are not as due");
        if (wrong != 0) System.exit(1);
    }
}
