import java.util.function.Supplier;

/** What would be paid: each sentence of the document by its edges (Terms, part 2; promises 16 to 22). */
public final class RentEdges extends Sentences {
    /** Roof 0 on 4 sees 3 .. 5; roof 1 sees 8. Star 0 stays over 4; star 1 is over 8, 9, 0, .. 9. */
    private static final String WALK = "N0R4401R8002S405S811";

    private static void nothingIsChanged() {
        of("In what follows nothing is changed;");
        for (int l = 0; l <= 4; l++) {
            int landlord = l;
            unchanged("rents", x -> x.rents(landlord, 12), 0);
            unchanged("bestLaw", x -> landlord < 4 ? x.bestLaw(landlord, 12) : 0, 0);
        }
        unchanged("hold", x -> x.hold(0, 1), 2);
        unchanged("fires", x -> x.fires(10, 0), 7);
        unchanged("fires", x -> x.fires(10, 1), 30);
        unchanged("share", x -> x.share(1, 10, true), 0);
        unchanged("starless", x -> x.starless(10), 3);
        unchanged("rests", x -> x.rests(0, 2, 10, 0), 1);
        unchanged("rests", x -> x.rests(2, 1, 10, 1), 0);
        unchanged("found", x -> x.found(0), 3);
        unchanged("found", x -> x.found(1), 40);
        unchanged("look", StarRight::look, 14);
        unchanged("chance", x -> x.chance(0, 6, 5, true), 63);
        Supplier<StarRight> clear = () -> {
            StarRight x = busy();
            x.clouds();
            return x;
        };
        unchanged("rents", clear, x -> x.rents(4, 1), 14);
        unchanged("fires", clear, x -> x.fires(1, 0), 4);
        unchanged("share", clear, x -> x.share(0, 1, true), -1);
        unchanged("bestLaw", clear, x -> x.bestLaw(1, 12), 1);
        unchanged("rests", clear, x -> x.rests(0, 1, 1, 1), 8);
    }

    private static void hoursToCome() {
        of("HOURS come from THE HOUR on, with CLOUDS, or without, as it is now.");
        StarRight x = night(WALK);
        hours(x, 5);
        due("rents of hour 5", x.rents(1, 1), 6);
        due("of hours 5 .. 8", x.rents(4, 4), 20 + 3);
        due("hold at hour 5: over 3", x.hold(1, 1), 1);
        due("and 4, 5", x.hold(1, 3), 1);
        due("and 6", x.hold(1, 4), NONE);
        due("fires at hour 5", x.fires(1, 1), 7);
        due("share in hours 5 .. 8", x.share(0, 4, true), 23);
        due("share at hour 5", x.share(1, 1, true), 0);
        due("2 has none in hours 5 .. 9", x.starless(5), 2);
        due("but at hour 10", x.starless(6), NONE);
        due("at hour 5 0 rests at 0", x.rests(0, 1, 1, 1), 0);
        hours(x, 5);
        due("at hour 10 it is over 8", x.rents(2, 1), 1);
        due("hold", x.hold(1, 1), 2);
        x.clouds();
        due("rents", x.rents(4, 12), 0);
        due("fires: all", x.fires(3, 0), 3);
        due("fires: all", x.fires(3, 1), 6);
        due("share above", x.share(0, 5, true), 0);
        due("share below", x.share(0, 5, false), 1);
        due("law", x.bestLaw(1, 12), 0);
        due("none builds", x.rests(0, 1, 10, 1), 0);
        due("one rest", x.rests(0, 1, 10, 0), 1);
        x.clouds();
        due("rents", x.rents(4, 1), 6);
    }

    private static void rents() {
        of("RENTS of n HOURS (0 .. 12) of a LANDLORD; of all.");
        StarRight x = night(WALK);
        int[] first = {0, 5, 10, 15, 20, 25, 31, 37, 43, 48, 53, 58, 63};
        int[] second = {0, 1, 1, 1, 1, 1, 1, 1, 1, 1, 1, 2, 2};
        for (int n = 0; n <= 12; n++) {
            due("0 has no roof", x.rents(0, n), 0);
            due("1 in " + n, x.rents(1, n), first[n]);
            due("2 in " + n, x.rents(2, n), second[n]);
            due("all in " + n, x.rents(4, n), first[n] + second[n]);
        }
        due("13", x.rents(4, 13), BAD);
        due("-1", x.rents(4, -1), BAD);
        x.sell(1, 1);
        due("both are 1's", x.rents(1, 12), 65);
        due("2 has none", x.rents(2, 12), 0);

        of("`int rents(int landlord, int n)`: RENTS of a LANDLORD; of all (landlord = 4). UNKNOWN; BAD: n.");
        for (int landlord = 0; landlord <= 4; landlord++) {
            due("13", x.rents(landlord, 13), BAD);
            due("-1", x.rents(landlord, -1), BAD);
            for (int far : FAR) due("far", x.rents(landlord, far), BAD);
        }
        due("5", x.rents(5, 0), UNKNOWN);
        for (int far : FAR) {
            due("far", x.rents(far, 12), UNKNOWN);
            due("far, and n", x.rents(far, 13), UNKNOWN);
        }
        due("no night", new StarRight().rents(4, 12), 0);
    }

    private static void hold() {
        of("HOLD for a STAR and n HOURS (1 .. 10): the fewest ROOFS (bits; of like ones the least)");
        StarRight x = night("N0R4400R6400R5700S411S401");
        due("4: the least one", x.hold(0, 1), 1);
        due("4, 5: the least one", x.hold(0, 2), 1);
        due("4 .. 6: one, not two that are less", x.hold(0, 3), 4);
        due("4 .. 7: the least two", x.hold(0, 4), 3);
        due("over 4 for ten hours", x.hold(1, 10), 1);
        x = night("N0R6400R5700R4400S411");
        due("4: the least one", x.hold(0, 1), 2);
        due("4 .. 6", x.hold(0, 3), 2);
        due("4 .. 7: the least two", x.hold(0, 4), 3);
        x = night("N0R2800R7800S811S211");
        due("8, 9", x.hold(0, 2), 2);
        due("8, 9, 0", x.hold(0, 3), 3);
        due("all ten cells", x.hold(0, 10), 3);
        due("2 .. 4", x.hold(1, 3), 1);
        due("2 .. 5", x.hold(1, 4), 3);
        due("no hours", x.hold(0, 0), BAD);
        due("11", x.hold(0, 11), BAD);
        x = night("N0R0000R3400R5400R7400R9400S011");
        due("all five", x.hold(0, 1), 1);
        due("1 is seen by none", x.hold(0, 2), NONE);
        x.build(0, 4);
        due("all five", x.hold(0, 10), 31);

        of("so that in each of them one of these SEES the CELL over which it is (all ROOFS standing); NONE.");
        x = night("N0R4000R5900S401S501");
        due("0 is in the shade of 1, that sees 4", x.hold(0, 1), 2);
        x.build(1, 3);
        due("1 sees 5 alone", x.hold(0, 1), 1);
        due("1 sees 5 alone", x.hold(1, 1), 2);
        x = night("N0R3400R4000R5400S401S411");
        due("0 and 2 shade 1", x.hold(0, 10), 1);
        due("4 .. 6", x.hold(1, 3), 4);
        due("4 .. 7", x.hold(1, 4), NONE);
        x.clouds();
        due("sight has no clouds", x.hold(1, 3), 4);
        due("no roofs", night("N0S011").hold(0, 1), NONE);
        due("one cell is not seen", night("N0R2700R7900S011").hold(0, 1), NONE);
        due("the last cell is not seen", night("N0R2900R6900S011").hold(0, 10), NONE);
        due("but the nine ahead of it", night("N0R2900R6900S011").hold(0, 9), 3);

        of("`int hold(int star, int n)`: HOLD, as bits; NONE. UNKNOWN; BAD: n.");
        due("star 2", x.hold(2, 1), UNKNOWN);
        due("star 2, and n", x.hold(2, 0), UNKNOWN);
        for (int far : FAR) {
            due("far", x.hold(far, 1), UNKNOWN);
            due("far", x.hold(1, far), BAD);
        }
        due("no stars", night("N0R4000").hold(0, 1), UNKNOWN);
    }

    private static void fires() {
        of("FIRES for n HOURS (1 .. 10): of all sets of ROOFS that SMOKE (bits) that by which RENTS of all and 1 for each ROOF that SMOKES and each HOUR are most;");
        StarRight x = night("N0R0000R2000R4000R6000R8000");
        due("nothing shines: all", x.fires(1, 0), 31);
        due("nothing shines: all", x.fires(1, 1), 5);
        due("ten hours", x.fires(10, 1), 50);
        x = night("N0R4410R5010R9000S405S402");
        due("what smokes now is put out, what does not is lit", x.fires(1, 0), 4);
        due("how much", x.fires(1, 1), 5 + 2 + 1);
        due("ten hours", x.fires(10, 1), 80);
        x = night("N0R4400R5000S401");
        due("the second fire costs nothing more", x.fires(1, 0), 3);
        due("how much", x.fires(1, 1), 2);
        x = night("N0R4400R9000S417");
        due("4, 5, 6, 7: two hours of four are paid", x.fires(4, 0), 3);
        due("7 + 7 less 2, and 4 + 4", x.fires(4, 1), 20);
        due("no roofs", night("N0S409").fires(10, 0), 0);
        due("no roofs", night("N0S409").fires(10, 1), 0);

        // Of sets as good, what both have is as good too: so of fewest there is one alone, 'the least' parts none.
        of("of like ones that of fewest, then the least:");
        due("one fire is as good as none", night("N0R4410S402").fires(10, 0), 0);
        due("two are as good as none", night("N0R4410R5010S402").fires(1, 0), 0);
        due("one that is free, and one as good as none", night("N0R4410R9010S402").fires(1, 0), 2);
        due("the free one told first", night("N0R9010R4410S402").fires(1, 0), 1);
        due("two that are free", night("N0R9010R4410R7010S402").fires(1, 0), 5);
        due("fewer are not better by themselves", night("N0R0000R9000R4400S409S409").fires(1, 0), 3);

        of("which; how much.");
        x = night("N0R4410R9010S403");
        due("which", x.fires(2, 0), 2);
        due("how much", x.fires(2, 1), 6 + 2);

        of("`int fires(int n, int what)`: FIRES: which (what = 0: bits), how much (1). BAD: n, what.");
        due("0", x.fires(0, 0), BAD);
        due("11", x.fires(11, 1), BAD);
        due("10", x.fires(10, 0), 2);
        due("2", x.fires(1, 2), BAD);
        due("-1", x.fires(1, -1), BAD);
        for (int far : FAR) {
            due("far", x.fires(far, 1), BAD);
            due("far", x.fires(1, far), BAD);
        }
        due("no night", new StarRight().fires(0, 0), BAD);
    }

    private static void share(StarRight x, int roof, int n, int upper, int lower) {
        due("share(" + roof + ", " + n + ") above", x.share(roof, n, true), upper);
        due("share(" + roof + ", " + n + ") below", x.share(roof, n, false), lower);
    }

    private static void shares() {
        of("SHARE of a ROOF for n HOURS (1 .. 10): if ROOFS come one by one, in each order as likely (only those that have come stand):");
        StarRight x = night("N0R4400S405");
        share(x, 0, 1, 5, 1);
        share(x, 0, 10, 50, 1);
        x = night("N0R2800R3800R4800R5800R6800S403");
        for (int r = 0; r < 5; r++) {
            share(x, r, 1, 3, 5);
            share(x, r, 3, 9, 5);
            share(x, r, 10, 6, 1);
        }
        // 1 smokes and shades 0: 0 alone gets 2, 1 alone 1, both 1.
        x = night("N0R4000R5410S402");
        share(x, 0, 1, 1, 1);
        share(x, 1, 1, 0, 1);
        due("the shade of both", x.about(6), 1);

        of("by how much in the mean RENTS of all are more when it has come than they were:");
        // 0 and 1 both see the star: who comes first brings 6; 2 brings its own star of 1.
        x = night("N0R4400R5401R9002S406S901");
        share(x, 0, 1, 3, 1);
        share(x, 1, 1, 3, 1);
        share(x, 2, 1, 1, 1);
        share(x, 2, 7, 7, 1);
        // Of three that see it, each is the first in a third of the orders.
        share(night("N0R4400R5401R3402S408"), 1, 1, 8, 3);
        x.clouds();
        share(x, 0, 10, 0, 1);

        of("a FRACTION (less than 0: the upper one is).");
        x = night("N0R4400R5010S403");
        share(x, 0, 1, 5, 2);
        share(x, 1, 1, -1, 2);
        share(x, 1, 2, -1, 1);
        share(x, 1, 10, -5, 1);
        share(night("N0R4400R5010R3010S403"), 2, 1, -1, 2);
        share(night("N0R4400R5010R9000S403"), 2, 10, 0, 1);

        of("`int share(int roof, int n, boolean upper)`: SHARE. UNKNOWN; BAD: n.");
        due("roof 2", x.share(2, 1, true), UNKNOWN);
        due("roof 2, and n", x.share(2, 0, false), UNKNOWN);
        due("0", x.share(1, 0, true), BAD);
        due("11", x.share(1, 11, false), BAD);
        for (int far : FAR) {
            due("far", x.share(far, 1, true), UNKNOWN);
            due("far", x.share(0, far, true), BAD);
        }
        due("no roofs", night("N0S409").share(0, 1, true), UNKNOWN);
    }

    private static void bestLaw() {
        of("BEST LAW for one LANDLORD (0 .. 3, not for all) and n HOURS:");
        // Over 5: the nearest is 0's, the highest 1's, the lowest 3's.
        StarRight x = night("N0R5700R4801R6403S504");
        due("0", x.bestLaw(0, 1), 0);
        due("1", x.bestLaw(1, 1), 1);
        due("2 has no roof", x.bestLaw(2, 1), 0);
        due("3", x.bestLaw(3, 1), 2);
        due("3", x.bestLaw(3, 12), 2);
        due("no hours", x.bestLaw(3, 0), 0);
        due("not for all", x.bestLaw(4, 1), UNKNOWN);
        due("nor for more", x.bestLaw(5, 1), UNKNOWN);
        due("13", x.bestLaw(3, 13), BAD);
        due("-1", x.bestLaw(3, -1), BAD);
        for (int n = 0; n <= 12; n++) likeRents("R5700R4801R6403S504S613", n);
        for (int n = 0; n <= 12; n++) likeRents("R3800R4901R6402R2403S413S924S837", n);
        due("in 11 hours", night("N0R6600R4901R7501S435").bestLaw(1, 11), 1);
        due("in 12 hours", night("N0R6600R4901R7501S435").bestLaw(1, 12), 2);

        of("the LAW by which its RENTS are most; the least of like ones.");
        x = night("N2R5600R4901R6401S501");
        due("1 and 2 are like, 0 is less", x.bestLaw(1, 1), 1);
        due("0 is most", x.bestLaw(0, 1), 0);
        x = night("N2R5401R3800S501");
        due("0 and 2 are like", x.bestLaw(1, 1), 0);
        due("the law that holds is no other than the rest", x.bestLaw(0, 1), 1);
        due("none pays anything", night("N2R5401").bestLaw(1, 12), 0);

        of("`int bestLaw(int landlord, int n)`: BEST LAW. UNKNOWN; BAD: n (0 .. 12).");
        due("0", x.bestLaw(0, 0), 0);
        due("12", x.bestLaw(0, 12), 1);
        for (int far : FAR) {
            due("far", x.bestLaw(far, 1), UNKNOWN);
            due("far, and n", x.bestLaw(far, 13), UNKNOWN);
            due("far", x.bestLaw(0, far), BAD);
        }
        due("all, and n", x.bestLaw(4, 13), UNKNOWN);
    }

    /** The night by each law, its rents compared. */
    private static void likeRents(String parts, int n) {
        for (int l = 0; l < 4; l++) {
            int best = 0;
            for (int law = 1; law < 3; law++) {
                if (night("N" + law + parts).rents(l, n) > night("N" + best + parts).rents(l, n)) best = law;
            }
            due(parts + ": best law for " + l + " in " + n, night("N2" + parts).bestLaw(l, n), best);
        }
    }

    private static void starless() {
        of("STARLESS: the least LANDLORD that has a ROOF, but none that holds a STAR in n HOURS (1 .. 10; CLOUDS do not count); NONE.");
        StarRight x = night("N0R0003R9001S011");
        due("9 hours: 1", x.starless(9), 1);
        due("10 hours: none", x.starless(10), NONE);
        x.clouds();
        due("9 hours: 1", x.starless(9), 1);
        due("10 hours below clouds: none", x.starless(10), NONE);
        x.hour();
        due("now over 1: 1 ahead of 3", x.starless(1), 1);
        x.sell(1, 3);
        due("3 alone has roofs", x.starless(1), 3);
        due("3's second holds it", x.starless(9), NONE);
        due("0 and 3 have none", night("N0R4003R6000S501").starless(10), 0);
        due("it sees, another one holds", night("N0R5401R4500S501").starless(10), 0);
        due("it holds, and is paid nothing", night("N0R4410S401").starless(1), NONE);
        due("one of two roofs holds", night("N0R4402R9002S401").starless(1), NONE);
        due("the law tells the holder", night("N1R5401R4500S501").starless(1), 1);
        due("no stars", night("N0R4402R9003").starless(10), 2);

        of("`int starless(int n)`: STARLESS; NONE. BAD: n.");
        due("no roofs", night("N0S409").starless(1), NONE);
        due("no night", new StarRight().starless(10), NONE);
        due("0", x.starless(0), BAD);
        due("11", x.starless(11), BAD);
        for (int far : FAR) due("far", x.starless(far), BAD);
    }

    private static void rests() {
        of("RESTS of two ROOFS and n HOURS (1 .. 10): each chooses its HEIGHT (0 .. 9) alone;");
        // Law 1, the star over 6: roof 0 on 8 sees it at 8 high; roof 1 on 4 holds it at 9 high alone.
        String nine = "N1R8801R4000R0000S609";
        StarRight x = night(nine);
        due("two hours: 18 less 9, at 9", x.rests(1, 2, 2, 1), 90);
        due("the other way about", x.rests(2, 1, 2, 1), 9);
        due("one rest", x.rests(1, 2, 2, 0), 1);
        due("ten hours", x.rests(1, 2, 10, 1), 90);
        due("0 hours", x.rests(1, 2, 0, 1), BAD);
        due("11 hours", x.rests(1, 2, 11, 1), BAD);
        due("whatever height it has now", night("N1R8801R4500R0700S609").rests(1, 2, 2, 1), 90);

        of("each has what STARS that it holds pay, less its HEIGHT:");
        due("one hour: 9 less 9, as much as 0 less 0", x.rests(1, 2, 1, 0), 2);
        due("the first one", x.rests(1, 2, 1, 1), 0);
        // A height is taken off once: two hours of 3 are more than 4.
        due("two hours of 3, 4 high", night("N0R2000R8000S303").rests(0, 1, 2, 1), 40);
        due("one hour of 3, 4 high", night("N0R2000R8000S303").rests(0, 1, 1, 1), 0);
        due("smoke is paid for", night("N0R2010R8000S303").rests(0, 1, 2, 0), 2);
        // Both are 0's. What one holds is nothing to the other: 0 takes the star at 4 high, whatever 1 does.
        due("its own, not its landlord's", night("N0R2000R4000S309").rests(0, 1, 1, 0), 1);
        due("its own, not its landlord's", night("N0R2000R4000S309").rests(0, 1, 1, 1), 40);

        of("pairs in which neither has more by another HEIGHT alone: how many;");
        due("nothing shines", night("N0R2500R7700").rests(0, 1, 10, 0), 1);
        due("each goes one above the other", night("N1R2000R4000S309").rests(0, 1, 1, 0), 0);
        // 4 less 4 is as much as 0 less 0, for each alone: all four pairs.
        due("four", night("N0R2000R8000S304S704").rests(0, 1, 1, 0), 4);
        due("two", night("N0R2000R8000S304S705").rests(0, 1, 1, 0), 2);

        of("the first one (10 times the HEIGHT of the first one told and that of the other); NONE.");
        x = night("N0R2000R8000S304S705");
        due("0 and 4 high", x.rests(0, 1, 1, 1), 4);
        due("4 and 0 high", x.rests(1, 0, 1, 1), 40);
        due("both 4 high", night("N0R2000R8000S305S705").rests(0, 1, 1, 1), 44);
        due("none", night("N1R2000R4000S309").rests(0, 1, 1, 1), NONE);

        of("`int rests(int roof, int other, int n, int what)`: RESTS: how many (what = 0), the first one (1; NONE). UNKNOWN: roof, other; BAD: both are one, n, what.");
        due("roof 2", x.rests(2, 1, 1, 0), UNKNOWN);
        due("other 2", x.rests(1, 2, 1, 0), UNKNOWN);
        due("both 2", x.rests(2, 2, 0, 2), UNKNOWN);
        due("both are one", x.rests(1, 1, 1, 0), BAD);
        due("both are one", x.rests(0, 0, 1, 1), BAD);
        due("what", x.rests(0, 1, 1, 2), BAD);
        due("what", x.rests(0, 1, 1, -1), BAD);
        for (int far : FAR) {
            due("far", x.rests(far, 1, 1, 0), UNKNOWN);
            due("far", x.rests(0, far, 1, 0), UNKNOWN);
            due("far", x.rests(0, 1, far, 0), BAD);
            due("far", x.rests(0, 1, 1, far), BAD);
        }
        due("10 hours", x.rests(0, 1, 10, 0), 1);
        due("no roofs", new StarRight().rests(0, 1, 1, 0), UNKNOWN);
    }

    public static void main(String[] args) {
        nothingIsChanged();
        hoursToCome();
        rents();
        hold();
        fires();
        shares();
        bestLaw();
        starless();
        rests();
        end();
    }
}
