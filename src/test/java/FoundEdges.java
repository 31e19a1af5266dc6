import java.math.BigInteger;
import java.util.function.ToLongFunction;

/**
 * What shone, chance, the seed, slots and refusals: each sentence of the document
 * by its edges (Terms, parts 3 and 4; promises 23 to 31).
 */
public final class FoundEdges extends Sentences {
    private static StarRight shone(int... cellsAndHours) {
        StarRight x = new StarRight();
        for (int i = 0; i < cellsAndHours.length; i += 2) x.shine(cellsAndHours[i], cellsAndHours[i + 1], true);
        return x;
    }

    private static void shining() {
        of("An object is used for at most 512 calls after it has been made; what later calls answer is free.");
        StarRight x = night("N0R4402S405");
        // The text is wiped, eleven bytes are written, the night is made: 13 calls.
        for (int call = 14; call <= 510; call++) x.hour();
        due("511th call", x.hour(), 5);
        due("512th call", x.purse(2), 5 * 498);

        of("SHONE: that over a CELL at HOUR t (0 .. 9) something shone, or nothing:");
        x = new StarRight();
        due("over 0 at 0", x.shine(0, 0, true), 1);
        due("over 9 at 9 nothing", x.shine(9, 9, false), 2);
        due("over 10", x.shine(10, 0, true), BAD);
        due("over -1", x.shine(-1, 0, true), BAD);
        due("at 10", x.shine(0, 10, false), BAD);
        due("at -1", x.shine(0, -1, false), BAD);
        for (int cell = 0; cell <= 9; cell++) {
            for (int t = 0; t <= 9; t++) {
                x.unshine();
                due("something", x.shine(cell, t, true), 1);
                due("four can be there", x.found(0), 4);
                x.unshine();
                due("nothing", x.shine(cell, t, false), 1);
                due("four can not", x.found(0), 36);
            }
        }

        of("6 such at most, none at first.");
        x = new StarRight();
        due("none", x.about(8), 0);
        for (int i = 1; i <= 6; i++) due("shine", x.shine(3, 3, true), i);
        due("7th", x.shine(3, 3, true), FULL);
        due("7th, of nothing", x.shine(0, 0, false), FULL);
        due("six", x.about(8), 6);
        due("found by six", x.found(0), 4);
    }

    private static void finding() {
        of("FOUND: STARS (40: by where they rise, then how fast) by which all that was told is so (over the CELL then, or not):");
        due("all", new StarRight().found(0), 40);
        for (int a = 0; a <= 9; a++) {
            for (int w = 0; w <= 3; w++) {
                StarRight x = shone(a, 0, (a + w) % 10, 1);
                due("S" + a + w, x.found(0), 1);
                due("S" + a + w, x.found(1), 10 * a + w);
                x.shine((a + 9 * w) % 10, 9, true);
                due("S" + a + w + " at hour 9", x.found(1), 10 * a + w);
                x.shine((a + 9 * w) % 10, 9, false);
                due("not both", x.found(0), 0);
            }
        }
        // Over 9 at hour 9: 90, 01, 12, 23. The first of them rises on 0, where no slower one is told.
        StarRight x = shone(9, 9);
        due("four", x.found(0), 4);
        due("the first rises on 0", x.found(1), 1);
        x.shine(0, 0, false);
        due("then on 1", x.found(1), 12);
        x = new StarRight();
        x.shine(0, 0, false);
        due("four less", x.found(0), 36);
        x.shine(1, 1, false);
        due("10, 92, 83 are less; 01 was not there", x.found(0), 33);
        x = night("N0S509");
        due("whatever stars there are", x.found(0), 40);
        x.hour();
        x.shine(5, 0, false);
        due("whatever stars there are", x.found(0), 36);

        of("how many; the first one (10 times where it rises, and how fast); NONE.");
        due("40", new StarRight().found(0), 40);
        due("0 and 0", new StarRight().found(1), 0);
        due("9 and 3", shone(9, 0, 2, 1).found(1), 93);
        due("0 and 3", shone(0, 0, 3, 1).found(1), 3);
        due("9 and 0", shone(9, 0).found(1), 90);
        due("none", shone(9, 0, 3, 1).found(0), 0);
        due("none", shone(9, 0, 3, 1).found(1), NONE);
        due("none over two cells at once", shone(9, 0, 8, 0).found(1), NONE);
    }

    private static void looking() {
        of("LOOK: the HOUR (0 .. 9) and CELL, by which those that are FOUND are parted best (over it then or not; the greater part is least):");
        // 70, 71, 72, 73: at hour 5 over 7, 2, 7, 2.
        due("at 5 two are over 2", shone(7, 0).look(), 52);
        // 00, 61, 22, 83: ahead of hour 9, where they are over 0, 5, 0, 5, each is by itself, or all are over 0.
        due("at the last hour", shone(0, 4).look(), 90);
        // 90, 01, 12, 23 at hour 4: over 9, 4, 9, 4.
        due("at 4", shone(9, 9).look(), 44);
        // Of 28 none but those that rise on 9 are four over one cell at hour 0.
        StarRight x = new StarRight();
        x.shine(1, 9, false);
        x.shine(0, 4, false);
        x.shine(5, 4, false);
        due("28", x.found(0), 28);
        due("over the last cell", x.look(), 9);
        // 71, 72, 73: at hour 1 over 8, 9, 0; one of three is parted from two.
        x = shone(7, 0);
        x.shine(7, 1, false);
        due("one and two", x.look(), 10);

        of("10 times the HOUR and the CELL, the least of like ones;");
        due("all looks part 4 and 36", new StarRight().look(), 0);
        x = new StarRight();
        x.shine(0, 0, false);
        due("over 0 at 0 there is none", x.look(), 1);
        // 70, 72: over 7 at 0; at 1 over 7 and 9.
        x = shone(7, 0, 7, 5);
        due("two", x.found(0), 2);
        due("over 7 ahead of 9", x.look(), 17);
        due("one can not be parted: like ones all", shone(7, 0, 8, 1).look(), 0);

        of("NONE: none is FOUND.");
        due("none", shone(9, 0, 8, 0).look(), NONE);
        x = shone(9, 0);
        x.shine(9, 0, false);
        due("none", x.look(), NONE);
        x.unshine();
        due("all", x.look(), 0);
    }

    private static void chance(StarRight x, int star, int n, int tenths, int upper, int lower) {
        String call = "chance(" + star + ", " + n + ", " + tenths + ") ";
        due(call + "above", x.chance(star, n, tenths, true), upper);
        due(call + "below", x.chance(star, n, tenths, false), lower);
    }

    private static void chances() {
        of("CHANCE for a STAR and n HOURS (1 .. 6): in each of them there are CLOUDS by x tenths (0 .. 10), by itself (whatever there is now):");
        StarRight x = night("N0R4402S405");
        int[] above = {1, 9, 4, 7, 3, 1, 2, 3, 1, 1, 0};
        int[] below = {1, 10, 5, 10, 5, 2, 5, 10, 5, 10, 1};
        for (int tenths = 0; tenths <= 10; tenths++) chance(x, 0, 1, tenths, above[tenths], below[tenths]);
        int[] halves = {1, 3, 7, 15, 31, 63};
        for (int n = 1; n <= 6; n++) chance(x, 0, n, 5, halves[n - 1], halves[n - 1] + 1);
        chance(x, 0, 6, 9, 468559, 1000000);
        chance(x, 0, 6, 1, 999999, 1000000);
        chance(x, 0, 6, 4, 15561, 15625);
        chance(x, 0, 6, 0, 1, 1);
        chance(x, 0, 6, 10, 0, 1);
        x.clouds();
        chance(x, 0, 1, 0, 1, 1);
        chance(x, 0, 6, 5, 63, 64);
        due("0 hours", x.chance(0, 0, 5, true), BAD);
        due("7 hours", x.chance(0, 7, 5, true), BAD);
        due("-1 tenth", x.chance(0, 1, -1, true), BAD);
        due("11 tenths", x.chance(0, 1, 11, true), BAD);

        of("that it pays something in some of them: a FRACTION.");
        // Over 4, 7, 0, 3, 6, 9: at hours 0 and 3.
        x = night("N0R4411S435S431");
        for (int n = 1; n <= 3; n++) chance(x, 0, n, 5, 1, 2);
        for (int n = 4; n <= 6; n++) chance(x, 0, n, 5, 3, 4);
        chance(x, 1, 6, 0, 0, 1);
        x.hour();
        chance(x, 0, 2, 0, 0, 1);
        chance(x, 0, 2, 10, 0, 1);
        chance(x, 0, 3, 7, 3, 10);
        x.light(0);
        chance(x, 1, 3, 7, 3, 10);
        chance(night("N0S405"), 0, 6, 0, 0, 1);

        of("`int chance(int star, int n, int x, boolean upper)`: CHANCE. UNKNOWN; BAD: n, x.");
        due("star 2", x.chance(2, 1, 1, true), UNKNOWN);
        due("star 2, n, x", x.chance(2, 0, 11, false), UNKNOWN);
        for (int far : FAR) {
            due("far", x.chance(far, 1, 1, true), UNKNOWN);
            due("far", x.chance(1, far, 1, true), BAD);
            due("far", x.chance(1, 1, far, false), BAD);
        }
    }

    // ---- the seed

    private static final BigInteger ALL_64 = BigInteger.ONE.shiftLeft(64);

    private static BigInteger next(BigInteger seed) {
        return seed.multiply(new BigInteger("6364136223846793005")).add(new BigInteger("1442695040888963407")).mod(ALL_64);
    }

    private static boolean cloudy(BigInteger seed) {
        return seed.shiftRight(33).mod(BigInteger.valueOf(3)).signum() == 0;
    }

    private static final long[] SEEDS = {0, 1, -1, 107, Long.MIN_VALUE, Long.MAX_VALUE, 1L << 33, 1L << 32, -(1L << 33), 123456789123456789L};

    private static void seeds() {
        of("NIGHTS by THE SEED: m HOURS (1 .. 30), ahead of each x (THE SEED, a long; 0 at first) becomes x times 6364136223846793005 and 1442695040888963407 (64 bits, wrapping);");
        due("at first", new StarRight().seed(0), 0);
        due("0 hours", new StarRight().nights(0), BAD);
        due("31 hours", new StarRight().nights(31), BAD);
        for (long seed : SEEDS) {
            for (int m = 1; m <= 30; m++) {
                StarRight x = new StarRight();
                x.seed(seed);
                x.nights(m);
                BigInteger at = BigInteger.valueOf(seed).mod(ALL_64);
                for (int i = 0; i < m; i++) at = next(at);
                due("seed " + seed + " in " + m, x.seed(0), at.longValue());
            }
        }

        of("CLOUDS are there, if what is left of its upper 31 bits by 3 is 0: RENTS of all.");
        for (long seed : SEEDS) {
            // The roof sees 3 .. 5; star 0 stays over 4, star 1 is over 4, 7, 0, 3, ..
            StarRight x = night("N0R4402S405S432");
            x.seed(seed);
            BigInteger at = BigInteger.valueOf(seed).mod(ALL_64);
            int all = 0;
            for (int i = 0; i < 30; i++) {
                at = next(at);
                int cell = (4 + 3 * i) % 10;
                if (!cloudy(at)) all += 5 + (cell >= 3 && cell <= 5 ? 2 : 0);
            }
            due("30 hours by " + seed, x.nights(30), all);
        }
        for (int i = 0; i < 60; i++) {
            StarRight x = night("N0R4402S405");
            x.seed(i * 0x123456789ABCDEFL);
            BigInteger at = next(BigInteger.valueOf(i * 0x123456789ABCDEFL).mod(ALL_64));
            due("one hour", x.nights(1), cloudy(at) ? 0 : 5);
        }
        StarRight x = night("N0R4401R7402S405S712");
        x.seed(0);
        due("of all", x.nights(1), 7);
        x = night("N0R4402S435");
        x.hour();
        due("from THE HOUR on: over 7", x.nights(1), 0);
        x.clouds();
        x.hour();
        x.hour();
        x.seed(0);
        due("whatever clouds there are: over 3", x.nights(1), 5);

        of("(Nothing changes but THE SEED.)");
        unchanged("nights", y -> {
            long paid = y.nights(30) >= 0 ? 0 : 1;
            y.seed(77);
            return paid;
        }, 0);
        x = busy();
        x.nights(30);
        due("the seed does", x.seed(0) == 77 ? 1 : 0, 0);

        of("`long seed(long v)`: THE SEED is v: what it was.");
        x = new StarRight();
        long was = 0;
        for (long seed : SEEDS) {
            due("seed", x.seed(seed), was);
            was = seed;
        }
        due("no act", x.about(7), 0);

        of("`int nights(int m)`: NIGHTS. BAD: m.");
        for (int far : FAR) {
            if (far < 1 || far > 30) due("far", x.nights(far), BAD);
        }
        due("the seed stays", x.seed(0), was);
        due("no stars", x.nights(30), 0);
    }

    // ---- slots

    private static void slots() {
        of("SLOTS 0 .. 1 keep ROOFS, CLOUDS, PURSES, THE HOUR (no ACTS when one goes on).");
        StarRight x = night("N0R4401R7412S405S702");
        String first = town(x);
        due("slot 0", x.keep(0), 0);
        x.hour();
        x.clouds();
        x.build(0, 9);
        x.light(0);
        x.sell(1, 3);
        String second = town(x);
        due("slot 1", x.keep(1), 1);
        due("slot 2", x.keep(2), UNKNOWN);
        due("slot -1", x.keep(-1), UNKNOWN);
        due("acts stay", x.about(7), 5);
        due("to slot 0", x.again(0), 0);
        same("slot 0", town(x), first);
        due("no acts", x.about(7), 0);
        due("no acts", x.undo(), LATE);
        due("to slot 1", x.again(1), 1);
        same("slot 1", town(x), second);
        x.build(0, 0);
        x.light(1);
        x.sell(0, 0);
        x.hour();
        x.clouds();
        due("to slot 1 again", x.again(1), 1);
        same("what was kept is as it was", town(x), second);
        x.again(0);
        hours(x, 2);
        due("slot 1 anew", x.keep(1), 2);
        String third = town(x);
        x.again(0);
        same("slot 0 is as it was", town(x), first);
        x.again(1);
        same("slot 1 is the new one", town(x), third);

        of("`int keep(int slot)`: They are kept: THE HOUR. UNKNOWN.");
        x = new StarRight();
        due("no night", x.keep(1), 0);
        hours(x, 3);
        due("hour", x.keep(0), 3);
        due("it goes on", x.hour(), 0);
        due("hour", x.keep(0), 4);
        for (int far : FAR) due("far", x.keep(far), UNKNOWN);
        due("2", x.keep(2), UNKNOWN);

        of("`int again(int slot)`: They are as they were kept: THE HOUR. UNKNOWN; LATE: none were kept.");
        due("slot 1", x.again(1), 0);
        due("slot 0", x.again(0), 4);
        for (int far : FAR) due("far", x.again(far), UNKNOWN);
        due("2", x.again(2), UNKNOWN);
        x = night("N0R4401S405");
        due("none", x.again(0), LATE);
        x.keep(0);
        due("none in the other", x.again(1), LATE);
        x.wipe();
        x.shine(5, 5, true);
        x.seed(3);
        due("slot 0", x.again(0), 0);
        due("the text is not kept", x.about(9), 0);
        due("what shone is not kept", x.about(8), 1);
        due("the seed is not kept", x.seed(0), 3);
        due("the stars stay", x.about(1), 1);
    }

    // ---- refusals

    private static StarRight full() {
        StarRight x = busy();
        for (int i = 29; i < 48; i++) x.write('x');
        for (int i = 2; i < 6; i++) x.shine(9, 9, false);
        return x;
    }

    private static void refused(String call, ToLongFunction<StarRight> called, long want) {
        unchanged(call, called, want);
    }

    private static void refusals() {
        of("REFUSALS: UNKNOWN -1 (there is no such ROOF, STAR, LANDLORD, SLOT), BAD -2, LATE -3, FULL -4.");
        due("UNKNOWN", StarRight.UNKNOWN, -1);
        due("BAD", StarRight.BAD, -2);
        due("LATE", StarRight.LATE, -3);
        due("FULL", StarRight.FULL, -4);
        StarRight x = full();
        due("no such roof", x.roof(3, 0), -1);
        due("no such star", x.star(3, 0), -1);
        due("no such landlord", x.purse(4), -1);
        due("no such slot", x.keep(2), -1);
        due("no such thing", x.about(10), -2);
        due("none kept", x.again(1), -3);
        due("a full text", x.write(1), -4);
        due("all has shone", x.shine(1, 1, true), -4);

        of("Of several what is told first.");
        due("write: BAD, FULL", x.write(-1), BAD);
        due("write: BAD, FULL", x.write(256), BAD);
        due("roof: UNKNOWN, BAD", x.roof(3, 5), UNKNOWN);
        due("star: UNKNOWN, BAD", x.star(3, 5), UNKNOWN);
        due("build: UNKNOWN, BAD", x.build(3, 10), UNKNOWN);
        due("sell: UNKNOWN, LATE", x.sell(3, 3), UNKNOWN);
        due("rents: UNKNOWN, BAD", x.rents(5, 13), UNKNOWN);
        due("hold: UNKNOWN, BAD", x.hold(3, 0), UNKNOWN);
        due("share: UNKNOWN, BAD", x.share(3, 11, true), UNKNOWN);
        due("bestLaw: UNKNOWN, BAD", x.bestLaw(4, 13), UNKNOWN);
        due("rests: UNKNOWN, BAD", x.rests(3, 3, 0, 2), UNKNOWN);
        due("rests: UNKNOWN, BAD", x.rests(0, 3, 11, 0), UNKNOWN);
        due("rests: UNKNOWN, BAD", x.rests(3, 0, 1, -1), UNKNOWN);
        due("shine: BAD, FULL", x.shine(10, 0, true), BAD);
        due("shine: BAD, FULL", x.shine(0, 10, true), BAD);
        due("chance: UNKNOWN, BAD", x.chance(3, 0, 11, true), UNKNOWN);

        of("What is refused changes nothing.");
        refused("write", y -> y.write(-1), BAD);
        refused("write", y -> y.write(256), BAD);
        unchanged("write", FoundEdges::full, y -> y.write('R'), FULL);
        unchanged("night", FoundEdges::full, StarRight::night, LATE);
        refused("about", y -> y.about(10), BAD);
        refused("roof", y -> y.roof(3, 0), UNKNOWN);
        refused("roof", y -> y.roof(0, 5), BAD);
        refused("star", y -> y.star(3, 0), UNKNOWN);
        refused("star", y -> y.star(0, 5), BAD);
        refused("purse", y -> y.purse(4), UNKNOWN);
        refused("build", y -> y.build(3, 1), UNKNOWN);
        refused("build", y -> y.build(0, 10), BAD);
        refused("build", y -> y.build(0, -1), BAD);
        refused("build", y -> y.build(0, 4), LATE);
        refused("light", y -> y.light(3), UNKNOWN);
        refused("light", y -> y.light(-1), UNKNOWN);
        refused("light", y -> y.light(32), UNKNOWN);
        refused("sell", y -> y.sell(3, 1), UNKNOWN);
        refused("sell", y -> y.sell(0, 4), UNKNOWN);
        refused("sell", y -> y.sell(0, 3), LATE);
        unchanged("undo", () -> night("N0R4401S405"), StarRight::undo, LATE);
        refused("rents", y -> y.rents(5, 1), UNKNOWN);
        refused("rents", y -> y.rents(4, 13), BAD);
        refused("hold", y -> y.hold(3, 1), UNKNOWN);
        refused("hold", y -> y.hold(0, 11), BAD);
        refused("fires", y -> y.fires(11, 0), BAD);
        refused("fires", y -> y.fires(1, 2), BAD);
        refused("share", y -> y.share(3, 1, true), UNKNOWN);
        refused("share", y -> y.share(0, 11, true), BAD);
        refused("bestLaw", y -> y.bestLaw(4, 1), UNKNOWN);
        refused("bestLaw", y -> y.bestLaw(0, 13), BAD);
        refused("starless", y -> y.starless(11), BAD);
        refused("rests", y -> y.rests(0, 3, 1, 0), UNKNOWN);
        refused("rests", y -> y.rests(1, 1, 1, 0), BAD);
        refused("shine", y -> y.shine(10, 0, true), BAD);
        refused("shine", y -> y.shine(0, 10, true), BAD);
        unchanged("shine", FoundEdges::full, y -> y.shine(0, 0, false), FULL);
        refused("found", y -> y.found(2), BAD);
        refused("chance", y -> y.chance(3, 1, 1, true), UNKNOWN);
        refused("chance", y -> y.chance(0, 7, 1, true), BAD);
        refused("nights", y -> y.nights(0), BAD);
        refused("nights", y -> y.nights(31), BAD);
        refused("keep", y -> y.keep(2), UNKNOWN);
        refused("again", y -> y.again(2), UNKNOWN);
        refused("again", y -> y.again(1), LATE);

        of("NONE is -9.");
        due("NONE", StarRight.NONE, -9);
        due("no fault", night("N0").fault(), -9);
        due("no holder", night("N0S405").star(0, 3), -9);
        due("no look", shone(9, 0, 8, 0).look(), -9);

        of("FRACTIONS are told above (upper = true), below, in least terms.");
        x = night("N0R4400R5401S405S503");
        due("18 by 2 above", night("N0R4400R5401S409S509").share(0, 1, true), 9);
        due("18 by 2 below", night("N0R4400R5401S409S509").share(0, 1, false), 1);
        due("8 by 2 above", x.share(0, 1, true), 4);
        due("8 by 2 below", x.share(0, 1, false), 1);
        chance(x, 0, 1, 4, 3, 5);
        chance(x, 0, 2, 8, 9, 25);
        chance(x, 0, 3, 10, 0, 1);
        x.clouds();
        due("0 above", x.share(0, 1, true), 0);
        due("0 below", x.share(0, 1, false), 1);
        x = night("N0R4400R5010R3010S404");
        due("less than 0 above", x.share(1, 2, true), -1);
        due("more than 0 below", x.share(1, 2, false), 1);
    }

    // ---- promises

    private static void told() {
        of("`int shine(int cell, int t, boolean shone)`: SHONE: how many there are. BAD: cell, t; FULL: 6.");
        StarRight x = new StarRight();
        for (int far : FAR) {
            due("far", x.shine(far, 0, true), BAD);
            due("far", x.shine(0, far, true), BAD);
        }
        for (int i = 1; i <= 6; i++) due("shine", x.shine(i, i, i % 2 == 0), i);
        due("7th", x.shine(7, 7, true), FULL);
        due("7th, far", x.shine(7, 70, true), BAD);

        of("`int unshine()`: Nothing SHONE: how much there was.");
        due("six", x.unshine(), 6);
        due("none", x.unshine(), 0);
        due("none", x.about(8), 0);
        due("all", x.found(0), 40);
        due("one", x.shine(7, 7, true), 1);
        due("found by one", x.found(0), 4);

        of("`int found(int what)`: FOUND: how many (what = 0), the first one (1; NONE). BAD.");
        due("how many", x.found(0), 4);
        // Over 7 at hour 7: 70, 01, 32, 63.
        due("the first one", x.found(1), 1);
        due("2", x.found(2), BAD);
        for (int far : FAR) due("far", x.found(far), BAD);
        x.shine(7, 7, false);
        due("how many", x.found(0), 0);
        due("the first one", x.found(1), NONE);

        of("`int look()`: LOOK; NONE.");
        due("none", x.look(), NONE);
        x.unshine();
        due("least", x.look(), 0);
        x.shine(0, 0, true);
        // 00, 01, 02, 03: at hour 5 over 0, 5, 0, 5.
        due("at 5 over 0", x.look(), 50);
    }

    public static void main(String[] args) {
        shining();
        finding();
        looking();
        chances();
        seeds();
        slots();
        refusals();
        told();
        end();
    }
}
