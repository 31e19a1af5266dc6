/** The night and the acts: each sentence of the document by its edges (Terms, part 1; promises 1 to 15). */
public final class NightEdges extends Sentences {
    private static final String FIVE_ROOFS = "R0000R1001R2002R3003R4000";
    private static final String FOUR_STARS = "S001S112S223S334";

    private static void fault(String text, int want) {
        StarRight x = tell(new StarRight(), text);
        due("fault() of " + text, x.fault(), want);
        due("night() of " + text, x.night() < 0 ? x.night() : 0, want == NONE ? 0 : LATE);
    }

    // ---- the words in capitals

    private static void cellsAndHours() {
        of("9 in a row, HOURS 0, 1, .. .");
        StarRight x = night("N0R0900R9901S001S901");
        due("from 0 none below is seen", x.roof(0, 3), 0b0000000111);
        due("from 9 none above is seen", x.roof(1, 3), 0b1110000000);
        x = night("N0R0000R9910S001S901");
        due("0 is not beside 9: shade", x.about(6), 0);
        due("0 is not beside 9: smoke", x.star(0, 4), 1);
        due("over 9 by the one on 9", x.star(1, 3), 1);
        x = night("N0R9000R0910S001S901");
        due("9 is not beside 0: shade", x.about(6), 0);
        due("9 is not beside 0: smoke", x.star(1, 4), 1);
        due("over 0 none on 9 sees", night("N0R9900S009").star(0, 3), NONE);
        due("over 9 none on 0 sees", night("N0R0900S909").star(0, 3), NONE);
        x = night("N0S139");
        for (int h = 0; h < 200; h++) {
            due("hour", x.about(3), h);
            due("cell at hour " + h, x.star(0, 0), "1470369258".charAt(h % 10) - '0');
            x.hour();
        }
    }

    private static void howMany() {
        of("ROOFS are 0, 1, .. (5 at most),");
        StarRight x = tell(new StarRight(), "N0" + FIVE_ROOFS);
        due("five", x.night(), 50);
        for (int r = 0; r < 5; r++) due("roof " + r, x.roof(r, 0), r);
        due("roof(5)", x.roof(5, 0), UNKNOWN);
        due("roof(-1)", x.roof(-1, 0), UNKNOWN);
        due("the last one's bit", x.light(4), 1);
        due("the last one's bit", x.about(5), 16);
        fault("N0" + FIVE_ROOFS + "R", 27);
        fault("N0" + FIVE_ROOFS + "R5000", 27);
        fault("N0" + FIVE_ROOFS + "S001R5000", 31);
        due("one", night("N0R4000").roof(1, 0), UNKNOWN);

        of("STARS 0, 1, .. (4 at most),");
        x = tell(new StarRight(), "N0" + FOUR_STARS);
        due("four", x.night(), 4);
        for (int s = 0; s < 4; s++) due("star " + s, x.star(s, 0), s);
        due("star(4)", x.star(4, 0), UNKNOWN);
        due("star(-1)", x.star(-1, 0), UNKNOWN);
        fault("N0" + FOUR_STARS + "S", 18);
        fault("N0" + FOUR_STARS + "S001", 18);
        fault("N0" + FOUR_STARS + "R0000S001", 23);
        due("the last one's bit", night("N0R3000S001S001S001S301").roof(0, 4), 8);
        due("one", night("N0S001").star(1, 0), UNKNOWN);

        of("LANDLORDS 0 .. 3.");
        x = night("N0R4000R6003");
        for (int l = 0; l < 4; l++) due("purse(" + l + ")", x.purse(l), 0);
        due("purse(4)", x.purse(4), UNKNOWN);
        due("purse(-1)", x.purse(-1), UNKNOWN);
        due("of 3", x.roof(1, 2), 3);
        due("to 3", x.sell(0, 3), 0);
        due("to 0", x.sell(1, 0), 3);
        due("to 4", x.sell(1, 4), UNKNOWN);
        due("to -1", x.sell(1, -1), UNKNOWN);
        due("rents of 3", x.rents(3, 0), 0);
        due("rents of 5", x.rents(5, 0), UNKNOWN);
        due("rents of -1", x.rents(-1, 0), UNKNOWN);
        due("law for 3", x.bestLaw(3, 0), 0);
        due("law for 4", x.bestLaw(4, 0), UNKNOWN);

        of("THE TEXT is bytes (48 at most).");
        x = new StarRight();
        for (int i = 1; i <= 48; i++) due("byte " + i, x.write(i + 200), i);
        due("49th", x.write(0), FULL);
        due("and again", x.write(255), FULL);
        due("bytes", x.about(9), 48);
        due("wipe", x.wipe(), 48);
        due("then there is room", x.write(0), 1);
    }

    private static void whatANightIs() {
        of("A NIGHT is a TEXT: N, LAW (0 .. 2), then PARTS, none or more, numbered as they are told, each kind for itself:");
        for (int law = 0; law <= 2; law++) {
            StarRight x = tell(new StarRight(), "N" + law);
            due("no parts", x.night(), 0);
            due("law", x.about(2), law);
            due("no roofs", x.about(0), 0);
            due("no stars", x.about(1), 0);
        }
        fault("", 0);
        fault("N", 1);
        fault("N3", 1);
        fault("N/", 1);
        fault("n0", 0);
        fault("0N", 0);
        StarRight x = tell(new StarRight(), "N0S111R5000S222R7000S333");
        due("kinds in turn", x.night(), 23);
        due("roof 0", x.roof(0, 0), 5);
        due("roof 1", x.roof(1, 0), 7);
        for (int s = 0; s < 3; s++) due("star " + s, x.star(s, 2), s + 1);

        of("Rchso a ROOF on CELL c (none has two), of HEIGHT h (0 .. 9), s 1: it SMOKES, 0, of LANDLORD o");
        for (int d = 0; d <= 9; d++) {
            x = night("N0R" + d + "000");
            due("cell", x.roof(0, 0), d);
            x = night("N0R0" + d + "00");
            due("height", x.roof(0, 1), d);
        }
        due("no smoke", night("N0R0000").about(5), 0);
        due("smoke", night("N0R0010").about(5), 1);
        due("smoke of the second", night("N0R0000R5010").about(5), 2);
        for (int o = 0; o <= 3; o++) due("owner", night("N0R000" + o).roof(0, 2), o);
        fault("N0R:000", 3);
        fault("N0R0:00", 4);
        fault("N0R0/00", 4);
        fault("N0R0020", 5);
        fault("N0R0004", 6);
        fault("N0R5000R5", 8);
        fault("N0R5000R5000", 8);
        fault("N0R5000R6000R5000", 13);
        fault("N0R5000S001R6000R5000", 17);
        fault("N0R0000R0", 8);
        fault("N0R9000R9", 8);
        fault("N0R9000R8", 9);
        fault("N0R0000R9000S001S901", NONE);

        of("Sawv a STAR that is over CELL a at HOUR 0, over the one w (0 .. 3) farther each HOUR (0 comes behind 9), of WORTH v (1 .. 9)");
        for (int a = 0; a <= 9; a++) {
            for (int w = 0; w <= 3; w++) walk(a, w);
        }
        for (int v = 1; v <= 9; v++) due("worth", night("N0S00" + v).star(0, 2), v);
        fault("N0S:01", 3);
        fault("N0S041", 4);
        fault("N0S0/1", 4);
        fault("N0S000", 5);
        fault("N0S00:", 5);
        fault("N0S501S501S501S501", NONE);
        fault("N0S501R5000", NONE);
    }

    private static void walk(int a, int w) {
        StarRight x = night("N0S" + a + w + "1");
        int cell = a;
        for (int h = 0; h <= 20; h++) {
            due("S" + a + w + "1 at hour " + h, x.star(0, 0), cell);
            for (int step = 0; step < w; step++) cell = cell == 9 ? 0 : cell + 1;
            x.hour();
        }
        due("how fast", x.star(0, 1), w);
    }

    // ---- faults

    private static final String WHOLE = "N2R5913S107";

    /** Which bytes may stand at each place of WHOLE. */
    private static final String[] MAY_STAND =
        {"N", "012", "RS", "0123456789", "0123456789", "01", "0123", "RS", "0123456789", "0123", "123456789"};

    private static void faults() {
        of("FAULT: the place (from 0) of the first byte by which THE TEXT can be no NIGHT, whatever came behind it (its length set aside);");
        for (int place = 0; place < WHOLE.length(); place++) {
            for (int b = 0; b <= 255; b++) {
                if (MAY_STAND[place].indexOf(b) < 0) {
                    fault(WHOLE.substring(0, place) + (char) b, place);
                    fault(WHOLE.substring(0, place) + (char) b + WHOLE.substring(place + 1), place);
                }
            }
        }
        fault("N2R591xS1xx", 6);
        fault("x2R5913S107", 0);
        fault("N3R591xS1xx", 1);
        fault("N1" + FIVE_ROOFS + FOUR_STARS + "RRRRR", 43);
        fault("N1" + FIVE_ROOFS + FOUR_STARS + "N1", 43);
        fault("N9" + "R".repeat(46), 1);
        fault("R".repeat(48), 0);
        fault("N1" + FOUR_STARS + "S" + FIVE_ROOFS, 18);

        of("its length, if it is only not at its end;");
        for (int n = 0; n < WHOLE.length(); n++) {
            if (n != 2 && n != 7) fault(WHOLE.substring(0, n), n);
        }
        for (int place = 0; place < WHOLE.length(); place++) {
            for (char c : MAY_STAND[place].toCharArray()) {
                if (place != 1 && place != 6 && place != 10) fault(WHOLE.substring(0, place) + c, place + 1);
            }
        }

        of("NONE: none.");
        fault("N2", NONE);
        fault("N2R5913", NONE);
        fault(WHOLE, NONE);
        for (char c : MAY_STAND[1].toCharArray()) fault("N" + c, NONE);
        for (char c : MAY_STAND[6].toCharArray()) fault("N2R591" + c, NONE);
        for (char c : MAY_STAND[10].toCharArray()) fault("N2R5913S10" + c, NONE);
        fault("N1" + FIVE_ROOFS + FOUR_STARS, NONE);
        fault("N1" + FOUR_STARS + FIVE_ROOFS, NONE);
    }

    private static void atFirstAndAnew() {
        of("At first LAW is 0, there are no ROOFS, no STARS.");
        StarRight x = new StarRight();
        due("law", x.about(2), 0);
        due("roofs", x.about(0), 0);
        due("stars", x.about(1), 0);
        due("roof 0", x.roof(0, 0), UNKNOWN);
        due("star 0", x.star(0, 0), UNKNOWN);

        of("When THE NIGHT is made anew, THE HOUR is 0, there are no CLOUDS, all PURSES are 0.");
        String all = "N0R0000R2001R4002R6003S001S201S401S601";
        x = night(all);
        hours(x, 3);
        x.clouds();
        for (int l = 0; l < 4; l++) due("purse", x.purse(l), 3);
        due("anew", x.night(), 44);
        due("hour", x.about(3), 0);
        due("clouds", x.about(4), 0);
        for (int l = 0; l < 4; l++) due("purse", x.purse(l), 0);
        hours(x, 3);
        x.clouds();
        tell(x, "N1").night();
        due("hour", x.about(3), 0);
        due("clouds", x.about(4), 0);
        for (int l = 0; l < 4; l++) due("purse", x.purse(l), 0);
    }

    // ---- shade, sight, who holds, what is paid

    private static void shadeAndSight() {
        of("A ROOF is SHADED, if one on a CELL beside its own is more than 3 higher.");
        for (int low = 0; low <= 9; low++) {
            for (int high = 0; high <= 9; high++) {
                int shaded = high >= low + 4 ? 1 : low >= high + 4 ? 2 : 0;
                due("one above", night("N0R4" + low + "00R5" + high + "00").about(6), shaded);
                due("one below", night("N0R4" + low + "00R3" + high + "00").about(6), shaded);
                due("two above", night("N0R4" + low + "00R6" + high + "00").about(6), 0);
                due("two below", night("N0R4" + low + "00R2" + high + "00").about(6), 0);
            }
        }
        due("one of two is enough", night("N0R4000R3000R5400").about(6), 1);
        due("one of two is enough", night("N0R4000R3400R5000").about(6), 1);
        due("both are too low", night("N0R4000R3300R5300").about(6), 0);
        due("one that is shaded shades", night("N0R3900R4500R5100").about(6), 0b110);
        due("at the ends of the row", night("N0R0000R1400R9000R8400").about(6), 0b0101);

        of("It SEES CELLS that are no farther than a quarter of its HEIGHT (down), if it is not SHADED.");
        for (int h = 0; h <= 9; h++) {
            int seen = h < 4 ? 0b0000100000 : h < 8 ? 0b0001110000 : 0b0011111000;
            due("height " + h, night("N0R5" + h + "00").roof(0, 3), seen);
        }
        due("not in the shade of 4 more", night("N0R5500R4900").roof(0, 3), 0);
        due("beside 3 more", night("N0R5500R4800").roof(0, 3), 0b0001110000);
        due("nor its own cell", night("N0R5000R6400").roof(0, 3), 0);
        due("on 0", night("N0R0900").roof(0, 3), 0b0000000111);
        due("on 1", night("N0R1900").roof(0, 3), 0b0000001111);
        due("on 8", night("N0R8900").roof(0, 3), 0b1111000000);
        due("on 9", night("N0R9900").roof(0, 3), 0b1110000000);
    }

    private static int holder(String text) {
        return night(text).star(0, 3);
    }

    private static void holders() {
        of("A STAR is HELD at an HOUR by one of the ROOFS that SEE the CELL over which it is:");
        due("two off, 8 high", holder("N0R5800S301"), 0);
        due("two off, 7 high", holder("N0R5700S301"), NONE);
        due("one off, 4 high", holder("N0R5400S601"), 0);
        due("one off, 3 high", holder("N0R5300S601"), NONE);
        due("none off, 0 high", holder("N0R5000S501"), 0);
        due("three off, 9 high", holder("N0R5900S801"), NONE);
        due("the nearest is in the shade", holder("N0R5000R6900S501"), 1);
        due("no roofs", holder("N0S501"), NONE);
        StarRight x = night("N0R4400R7400S321");
        int[] holders = {0, 0, 1, NONE, NONE, 0};
        for (int h = 0; h < holders.length; h++) {
            due("at hour " + h, x.star(0, 3), holders[h]);
            x.hour();
        }

        of("by LAW 0 the nearest,");
        due("one off ahead of two, though higher or lower", holder("N0R7800R6900S501"), 1);
        due("none off ahead of one", holder("N0R4400R5700S501"), 1);
        due("none off ahead of one, the first told", holder("N0R5700R4400S501"), 0);

        of("1 the highest,");
        due("9 ahead of 8, though farther", holder("N1R6800R3900S501"), 1);
        due("9 ahead of 8, the first told", holder("N1R3900R6800S501"), 0);
        due("5 ahead of 4", holder("N1R6400R4500S501"), 1);

        of("2 the lowest one;");
        due("8 ahead of 9, though farther", holder("N2R6900R3800S501"), 1);
        due("8 ahead of 9, the first told", holder("N2R3800R6900S501"), 0);
        due("0 ahead of 3", holder("N2R4300R5000S501"), 1);
        due("the lowest is in the shade", holder("N2R5000R6400S501"), 1);

        of("of like ones the lower, then the lesser one.");
        due("as near: the lower", holder("N0R4500R6400S501"), 1);
        due("as near: the lower, the first told", holder("N0R4400R6500S501"), 0);
        due("two off, as near: the lower", holder("N0R3900R7800S501"), 1);
        due("as near, as low: the lesser", holder("N0R6400R4400S501"), 0);
        due("as near, as low: the lesser", holder("N0R4400R6400S501"), 0);
        due("as high: the lesser, though farther", holder("N1R3800R5800S501"), 0);
        due("as high: the lesser", holder("N1R5800R3800S501"), 0);
        due("as low: the lesser, though farther", holder("N2R3800R5800S501"), 0);
        due("as low: the lesser", holder("N2R6800R4800R5900S501"), 0);
        due("of three as near and as low the lesser", holder("N2R9000R6800R4800S501"), 1);
    }

    private static int pay(String text) {
        return night(text).star(0, 4);
    }

    private static void pays() {
        of("It pays its WORTH less 1 for each ROOF that SMOKES on the CELL of its holder or beside it (0 at least);");
        due("no smoke", pay("N0R4400S409"), 9);
        due("its holder's", pay("N0R4410S409"), 8);
        due("from below", pay("N0R4400R3010S409"), 8);
        due("from above", pay("N0R4400R5010S409"), 8);
        due("from both and its own", pay("N0R4410R3010R5010S409"), 6);
        due("two off", pay("N0R4400R2010R6010S409"), 9);
        due("beside the star, not its holder", pay("N0R4400R6010S509"), 9);
        due("beside the holder, not the star", pay("N0R4400R3010S509"), 8);
        due("2 less 3", pay("N0R4410R3010R5010S402"), 0);
        due("1 less 3", pay("N0R4410R3010R5010S401"), 0);
        due("3 less 3", pay("N0R4410R3010R5010S403"), 0);
        due("4 less 3", pay("N0R4410R3010R5010S404"), 1);
        due("the smoke of one in the shade", pay("N0R4900R5010S402"), 1);
        due("no holder", pay("N0R4000S509"), 0);

        of("nothing, if there are CLOUDS.");
        StarRight x = night("N0R4400S409");
        x.clouds();
        due("clouds", x.star(0, 4), 0);
        due("an hour", x.hour(), 0);
        due("purse", x.purse(0), 0);
        x.clouds();
        due("none any more", x.star(0, 4), 9);
        due("an hour", x.hour(), 9);
    }

    // ---- acts

    private static void acts() {
        of("BUILT: a ROOF is of another HEIGHT (0 .. 9).");
        StarRight x = night("N0R4500R6500");
        due("to 0", x.build(1, 0), 5);
        due("height", x.roof(1, 1), 0);
        due("to 9", x.build(1, 9), 0);
        due("height", x.roof(1, 1), 9);
        due("sees more", x.roof(1, 3), 0b0111110000);
        due("to 10", x.build(1, 10), BAD);
        due("to -1", x.build(1, -1), BAD);
        due("no other one", x.build(1, 9), LATE);
        due("the other roof", x.roof(0, 1), 5);

        of("LIT: it SMOKES, or does not any more.");
        x = night("N0R4500R6510");
        due("smokes", x.light(0), 1);
        due("smokes", x.about(5), 3);
        due("not any more", x.light(1), 0);
        due("not any more", x.about(5), 1);
        due("not any more", x.light(0), 0);
        due("again", x.light(0), 1);

        of("SOLD: it is another LANDLORD's.");
        x = night("N0R4500R6501S401");
        due("to 2", x.sell(0, 2), 0);
        due("of 2", x.roof(0, 2), 2);
        due("the other roof", x.roof(1, 2), 1);
        due("2 is paid", x.hour(), 1);
        due("2 is paid", x.purse(2), 1);
        due("0 is not", x.purse(0), 0);
        due("not another's", x.sell(0, 2), LATE);

        of("CLOUDS come, or go.");
        due("none", x.about(4), 0);
        due("come", x.clouds(), 1);
        due("some", x.about(4), 1);
        due("go", x.clouds(), 0);
        due("none", x.about(4), 0);

        of("AN HOUR: each STAR pays the LANDLORD of its holder, then THE HOUR is one more.");
        x = night("N0R4401R7402R0003S415S732S009S209");
        due("4, 7 and 0 are held", x.hour(), 5 + 2 + 9);
        due("the cells of hour 0", x.purse(1), 5);
        due("the cells of hour 0", x.purse(2), 2);
        due("the cells of hour 0", x.purse(3), 9);
        due("none has 0", x.purse(0), 0);
        due("hour", x.about(3), 1);
        due("over 5 and 0", x.hour(), 5 + 9 + 2);
        due("5 is seen by 4", x.purse(1), 10);
        due("0 by 0", x.purse(3), 9 + 9 + 2);
        due("hour", x.about(3), 2);
    }

    /** Acts of each kind in turn: clouds come and go, else the last kinds are told by what they change. */
    private static void theRow() {
        of("ACTS (BUILT, LIT, SOLD, CLOUDS, HOURS) are a row (14 at most; when it is full, the first one is forgotten); the last one can be undone.");
        for (int first = 0; first < 5; first++) {
            StarRight x = night("N0R4400R6401S405S613");
            act(x, first);
            String behindFirst = town(x);
            for (int i = 1; i <= 13; i++) {
                act(x, first + i);
                due("acts", x.about(7), i + 1);
            }
            due("14", x.about(7), 14);
            act(x, first + 14);
            due("no more than 14", x.about(7), 14);
            for (int left = 13; left >= 0; left--) due("undo", x.undo(), left);
            due("the first is forgotten", x.undo(), LATE);
            same("as it was behind the first", town(x), behindFirst);
        }
        StarRight x = night("N0R4400R6401S405S613");
        String[] before = new String[14];
        for (int i = 0; i < 14; i++) {
            before[i] = town(x);
            act(x, i);
        }
        for (int i = 13; i >= 0; i--) {
            x.undo();
            same("undone " + (14 - i), town(x), before[i]);
        }
        x = night("N0R4400");
        for (int i = 0; i < 40; i++) x.build(0, i % 4);
        due("26 are forgotten", x.about(7), 14);
        for (int i = 0; i < 14; i++) x.undo();
        due("26th", x.roof(0, 1), 25 % 4);
        due("room again", x.light(0), 1);
        due("room again", x.about(7), 1);
        due("undone", x.undo(), 0);
        due("undone", x.about(5), 0);
    }

    private static void act(StarRight x, int kind) {
        switch (kind % 5) {
            case 0 -> x.build(0, x.roof(0, 1) % 8 + 1);
            case 1 -> x.light(1);
            case 2 -> x.sell(0, (x.roof(0, 2) + 1) % 4);
            case 3 -> x.hour();
            default -> x.clouds();
        }
    }

    // ---- promises

    private static void madeAndWritten() {
        of("`StarRight()`: No roofs, no stars.");
        StarRight x = new StarRight();
        for (int what = 0; what <= 9; what++) due("about(" + what + ")", x.about(what), 0);
        due("roof", x.roof(0, 0), UNKNOWN);
        due("star", x.star(0, 0), UNKNOWN);
        due("fault", x.fault(), 0);
        due("an hour", x.hour(), 0);

        of("`int write(int letter)`: A byte (0 .. 255) comes behind THE TEXT: how long it is. BAD; FULL: there are 48.");
        x = new StarRight();
        due("0", x.write(0), 1);
        due("255", x.write(255), 2);
        due("-1", x.write(-1), BAD);
        due("256", x.write(256), BAD);
        due("as N if cut", x.write(256 + 'N'), BAD);
        for (int far : FAR) if (far != 32 && far != 33 && far != 64) due("far", x.write(far), BAD);
        due("as long as it was", x.about(9), 2);
        x.wipe();
        due("N", x.write('N'), 1);
        due("2", x.write('2'), 2);
        due("behind it", x.fault(), NONE);
        for (int i = 3; i <= 48; i++) due("byte", x.write(i), i);
        due("49th", x.write(49), FULL);
        due("49th, no byte", x.write(256), BAD);

        of("`int wipe()`: THE TEXT is empty: how long it was.");
        due("full", x.wipe(), 48);
        due("empty", x.about(9), 0);
        due("empty", x.fault(), 0);
        due("again", x.wipe(), 0);
        x.write(1);
        due("one", x.wipe(), 1);
        x = night("N1R4401");
        due("the text of a night", x.wipe(), 7);
        due("the night stays", x.about(0), 1);
        due("its law stays", x.about(2), 1);

        of("`int fault()`: FAULT; NONE.");
        due("empty", x.fault(), 0);
        x.write('N');
        due("N", x.fault(), 1);
        x.write('0');
        due("N0", x.fault(), NONE);
        x.write('N');
        due("N0N", x.fault(), 2);
        x.write('R');
        due("N0NR", x.fault(), 2);
        due("the night stays", x.about(0), 1);
        due("the text stays", x.about(9), 4);
    }

    private static void nights() {
        of("`int night()`: THE TEXT is THE NIGHT (THE TEXT itself stays; no ACTS; what was kept is gone; what SHONE, THE SEED stay): 10 times ROOFS, and STARS. LATE: a FAULT.");
        StarRight x = busy();
        x.keep(1);
        due("night", x.night(), 33);
        due("its text", x.about(9), 29);
        due("acts", x.about(7), 0);
        due("no undo", x.undo(), LATE);
        due("kept", x.again(0), LATE);
        due("kept", x.again(1), LATE);
        due("shone", x.about(8), 2);
        due("found", x.found(0), 3);
        due("seed", x.seed(77), 77);
        due("the heights of the text", x.roof(1, 1), 9);
        due("the smoke of the text", x.about(5), 0b101);
        due("the owners of the text", x.roof(0, 2), 2);
        due("none", tell(x, "N2").night(), 0);
        due("no roof of before", x.roof(0, 0), UNKNOWN);
        due("no star of before", x.star(0, 0), UNKNOWN);
        due("no smoke of before", x.about(5), 0);
        due("all", tell(x, "N2" + FIVE_ROOFS + FOUR_STARS).night(), 54);
        for (String faulty : new String[] {"", "N", "N3", "N0R", "N0R5000R5000", "N0S000", "N0" + FOUR_STARS + "S001"}) {
            unchanged("night() of " + faulty, () -> tell(busy(), faulty), StarRight::night, LATE);
        }
    }

    private static void asked() {
        of("`int about(int what)`: ROOFS (what = 0), STARS (1), LAW (2), THE HOUR (3), 1 if there are CLOUDS (4), which ROOFS SMOKE (5: bits), are SHADED (6: bits), ACTS (7), what SHONE (8), bytes of THE TEXT (9). BAD.");
        StarRight x = busy();
        int[] all = {3, 3, 1, 2, 1, 0b001, 0b001, 6, 2, 29};
        for (int what = 0; what <= 9; what++) due("about(" + what + ")", x.about(what), all[what]);
        x = night("N0R4900R5510R3611R6403");
        due("two smoke", x.about(5), 0b0110);
        due("one is shaded", x.about(6), 0b0010);
        due("10", x.about(10), BAD);
        for (int far : FAR) due("far", x.about(far), BAD);

        of("`int roof(int roof, int what)`: Of a ROOF its CELL (what = 0), HEIGHT (1), LANDLORD (2), CELLS that it SEES (3: bits), STARS that it holds now (4: bits). UNKNOWN; BAD.");
        x = night("N0R2801R9003S009S109S919S209");
        int[] first = {2, 8, 1, 0b0000011111, 0b1011};
        int[] second = {9, 0, 3, 0b1000000000, 0b0100};
        for (int what = 0; what <= 4; what++) {
            due("roof(0, " + what + ")", x.roof(0, what), first[what]);
            due("roof(1, " + what + ")", x.roof(1, what), second[what]);
        }
        due("roof(1, 5)", x.roof(1, 5), BAD);
        due("roof(2, 0)", x.roof(2, 0), UNKNOWN);
        for (int far : FAR) {
            due("far", x.roof(far, 0), UNKNOWN);
            due("far", x.roof(0, far), BAD);
        }
        x.hour();
        due("now it is over 0", x.roof(1, 4), 0);
        due("now it is over 0", x.roof(0, 4), 0b1111);

        of("`int star(int star, int what)`: Of a STAR over which CELL it is now (what = 0), how fast it goes (1), WORTH (2), which ROOF holds it now (3; NONE), what it pays now (4). UNKNOWN; BAD.");
        x = night("N0R2801R9013S009S938");
        int[] near = {0, 0, 9, 0, 9};
        int[] far = {9, 3, 8, 1, 7};
        for (int what = 0; what <= 4; what++) {
            due("star(0, " + what + ")", x.star(0, what), near[what]);
            due("star(1, " + what + ")", x.star(1, what), far[what]);
        }
        due("star(1, 5)", x.star(1, 5), BAD);
        due("star(2, 0)", x.star(2, 0), UNKNOWN);
        for (int none : FAR) {
            due("far", x.star(none, 0), UNKNOWN);
            due("far", x.star(0, none), BAD);
        }
        hours(x, 2);
        due("now over 5", x.star(1, 0), 5);
        due("now none holds it", x.star(1, 3), NONE);
        due("now it pays nothing", x.star(1, 4), 0);

        of("`int purse(int landlord)`: PURSE of a LANDLORD. UNKNOWN.");
        x = night("N0R2801R9003S009S918");
        hours(x, 2);
        int[] purses = {0, 9 + 9 + 8, 0, 8};
        for (int l = 0; l < 4; l++) due("purse(" + l + ")", x.purse(l), purses[l]);
        due("purse(4)", x.purse(4), UNKNOWN);
        for (int none : FAR) due("far", x.purse(none), UNKNOWN);
    }

    private static void builtLitSold() {
        of("`int build(int roof, int height)`: BUILT: the HEIGHT it had. UNKNOWN; BAD: height; LATE: it is so high.");
        StarRight x = night("N0R4500R6100");
        for (int h = 0; h <= 9; h++) due("to " + h, x.build(0, h), h == 0 ? 5 : h == 5 ? 4 : h - 1);
        due("to 9", x.build(0, 9), LATE);
        due("to 10", x.build(0, 10), BAD);
        due("to -1", x.build(0, -1), BAD);
        due("roof 2", x.build(2, 1), UNKNOWN);
        for (int none : FAR) {
            due("far", x.build(none, 1), UNKNOWN);
            due("far", x.build(0, none), BAD);
        }
        due("ten acts", x.about(7), 10);

        of("`int light(int roof)`: LIT: 1 if it SMOKES then, 0. UNKNOWN.");
        x = night("N0R4500R6100");
        due("1", x.light(1), 1);
        due("0", x.light(1), 0);
        due("roof 2", x.light(2), UNKNOWN);
        for (int none : FAR) due("far", x.light(none), UNKNOWN);
        due("two acts", x.about(7), 2);
        due("no roofs", new StarRight().light(0), UNKNOWN);

        of("`int sell(int roof, int landlord)`: SOLD: whose it was. UNKNOWN: roof, landlord; LATE: it is that one's.");
        x = night("N0R4503R6100");
        due("to 0", x.sell(0, 0), 3);
        due("to 3", x.sell(0, 3), 0);
        due("to 3", x.sell(0, 3), LATE);
        due("to 4", x.sell(0, 4), UNKNOWN);
        due("roof 2", x.sell(2, 0), UNKNOWN);
        for (int none : FAR) {
            due("far", x.sell(none, 1), UNKNOWN);
            due("far", x.sell(0, none), UNKNOWN);
        }
        due("two acts", x.about(7), 2);
    }

    private static void cloudsHoursUndone() {
        of("`int clouds()`: CLOUDS come, or go: 1 if there are some then, 0.");
        StarRight x = new StarRight();
        due("1", x.clouds(), 1);
        due("0", x.clouds(), 0);
        due("1", x.clouds(), 1);
        due("three acts", x.about(7), 3);

        of("`int hour()`: AN HOUR: what all STARS paid.");
        due("no stars, clouds", x.hour(), 0);
        due("hour", x.about(3), 1);
        x = night("N0R4400R6411S405S501S607S613");
        due("two landlords, own smoke", x.hour(), 5 + 1 + 6 + 2);
        due("the last walks on", x.hour(), 5 + 1 + 6 + 2);
        due("and is away", x.hour(), 5 + 1 + 6);
        x.clouds();
        due("clouds", x.hour(), 0);
        due("hour", x.about(3), 4);
        due("purses", x.purse(0) + x.purse(1), 40);

        of("`int undo()`: The last ACT is undone: how many are left. LATE: there is none.");
        x = new StarRight();
        due("none", x.undo(), LATE);
        x.clouds();
        x.hour();
        due("one left", x.undo(), 1);
        due("none left", x.undo(), 0);
        due("none", x.undo(), LATE);
        due("no clouds", x.about(4), 0);
        x = busy();
        String then = town(x);
        x.hour();
        due("six left", x.undo(), 6);
        same("as it was", town(x), then);
        unchanged("undo()", StarRight::new, StarRight::undo, LATE);
        x = night("N0R4402S409");
        x.hour();
        x.sell(0, 1);
        x.hour();
        due("paid back by the one who got it", x.undo(), 2);
        due("it got", x.purse(1), 0);
        due("the other keeps", x.purse(2), 9);
    }

    public static void main(String[] args) {
        cellsAndHours();
        howMany();
        whatANightIs();
        faults();
        atFirstAndAnew();
        shadeAndSight();
        holders();
        pays();
        acts();
        theRow();
        madeAndWritten();
        nights();
        asked();
        builtLitSold();
        cloudsHoursUndone();
        end();
    }
}
