import java.util.function.Supplier;
import java.util.function.ToLongFunction;

/**
 * What tests of single sentences share: which sentence of the document is being
 * tested (DocumentTest looks whether each has a test), and what was not as due.
 */
abstract class Sentences {
    static final int UNKNOWN = -1, BAD = -2, LATE = -3, FULL = -4, NONE = -9;
    static final int LEAST = Integer.MIN_VALUE, MOST = Integer.MAX_VALUE;

    /** Numbers that are no roof, star, landlord, slot; some have the last bits of one. */
    static final int[] FAR = {LEAST, LEAST + 1, -32, -2, -1, 32, 33, 64, 256, MOST - 1, MOST};

    private static String sentence = "";
    private static int sentences;
    private static int wrong;

    /** From here on this sentence is tested. */
    static void of(String quote) {
        sentence = quote;
        sentences++;
    }

    static void due(String what, long got, long want) {
        if (got != want) report(what + " answered " + got + ", due is " + want);
    }

    static void same(String what, String got, String want) {
        if (!got.equals(want)) report(what + ": it is " + got + ", due is " + want);
    }

    private static void report(String what) {
        wrong++;
        System.out.println("\"" + sentence + "\": " + what);
    }

    static void end() {
        System.out.println(wrong == 0 ? sentences + " sentences hold" : wrong + " answers are not as due");
        if (wrong != 0) System.exit(1);
    }

    // ---- objects to ask

    static StarRight tell(StarRight x, String text) {
        x.wipe();
        for (char c : text.toCharArray()) x.write(c);
        return x;
    }

    static StarRight night(String text) {
        StarRight x = tell(new StarRight(), text);
        if (x.night() < 0) report("no night is " + text);
        return x;
    }

    static void hours(StarRight x, int n) {
        for (int i = 0; i < n; i++) x.hour();
    }

    /** A night of three roofs and three stars in which something of each kind is there (44 calls). */
    static StarRight busy() {
        StarRight x = night("N1R2412R3901R5013S405S733S129");
        x.shine(4, 0, true);
        x.shine(5, 1, false);
        x.seed(77);
        x.hour();
        x.keep(0);
        x.build(1, 8);
        x.light(2);
        x.sell(0, 3);
        x.hour();
        x.clouds();
        return x;
    }

    // ---- all of an object that can be seen

    /** What acts change and slots keep. */
    static String town(StarRight x) {
        StringBuilder t = new StringBuilder();
        for (int what = 3; what <= 5; what++) t.append(x.about(what)).append(' ');
        for (int r = 0; r < x.about(0); r++) {
            t.append('[').append(x.roof(r, 0)).append(' ').append(x.roof(r, 1)).append(' ').append(x.roof(r, 2)).append(']');
        }
        for (int l = 0; l < 4; l++) t.append(' ').append(x.purse(l));
        return t.toString();
    }

    /** The rest: text, law, stars, how many acts, what shone, the seed. */
    static String rest(StarRight x) {
        StringBuilder t = new StringBuilder();
        for (int what : new int[] {0, 1, 2, 7, 8, 9}) t.append(x.about(what)).append(' ');
        t.append(x.fault()).append(' ').append(x.found(0)).append(' ').append(x.found(1));
        for (int s = 0; s < x.about(1); s++) {
            t.append('[').append(x.star(s, 0)).append(' ').append(x.star(s, 1)).append(' ').append(x.star(s, 2)).append(']');
        }
        long seed = x.seed(0);
        x.seed(seed);
        return t.append(" seed ").append(seed).toString();
    }

    /** All that was, what the acts were and what was kept too; the object is used up by it. */
    static String through(StarRight x) {
        StringBuilder t = new StringBuilder(town(x)).append(rest(x));
        for (int i = 0; i < 14; i++) {
            int left = x.undo();
            t.append("; undo ").append(left);
            if (left >= 0) t.append(": ").append(town(x));
        }
        for (int slot = 0; slot < 2; slot++) {
            int hour = x.again(slot);
            t.append("; again ").append(hour);
            if (hour >= 0) t.append(": ").append(town(x));
        }
        t.append("; night ").append(x.night()).append(' ').append(x.about(2)).append(' ').append(town(x));
        return t.toString();
    }

    /** The call is answered so, and all is as if it had not been called. */
    static void unchanged(String call, Supplier<StarRight> made, ToLongFunction<StarRight> called, long want) {
        StarRight x = made.get();
        due(call, called.applyAsLong(x), want);
        same("behind " + call, through(x), through(made.get()));
    }

    static void unchanged(String call, ToLongFunction<StarRight> called, long want) {
        unchanged(call, Sentences::busy, called, want);
    }
}
