import java.math.BigInteger;
import java.util.ArrayList;
import java.util.Comparator;
import java.util.List;
import java.util.regex.Matcher;
import java.util.regex.Pattern;

/**
 * Long runs of calls on StarRight and on a slow model beside it, written from
 * the document alone and in other ways than the class (orders one by one,
 * clouds one by one, whole states kept for undo): every answer must be the same.
 */
public final class ModelRuns {
    private static final int RUNS = 1200;
    private static final int CALLS = 512;

    /** Steps of a fixed row of numbers, so that each session sees the same runs. */
    private static final class Dice {
        private long state;

        Dice(long start) {
            state = start * 0x9E3779B97F4A7C15L + 1;
        }

        int below(int n) {
            state ^= state << 13;
            state ^= state >>> 7;
            state ^= state << 17;
            return (int) Long.remainderUnsigned(state * 0x2545F4914F6CDD1DL >>> 20, n);
        }

        boolean oneIn(int n) {
            return below(n) == 0;
        }
    }

    private record Roof(int cell, int height, boolean smokes, int owner) {
    }

    private record Star(int rise, int speed, int worth) {
        int over(int hour) {
            return (rise + speed * hour) % 10;
        }
    }

    private record State(List<Roof> roofs, boolean clouds, List<Integer> purses, int hour) {
        State with(int roof, Roof other) {
            List<Roof> all = new ArrayList<>(roofs);
            all.set(roof, other);
            return new State(all, clouds, purses, hour);
        }
    }

    private record Told(int cell, int hour, boolean shone) {
    }

    private static final class Model {
        private static final Pattern NIGHT = Pattern.compile("N[0-2](R[0-9][0-9][01][0-3]|S[0-9][0-3][1-9])*");
        private static final Pattern ROOF = Pattern.compile("R([0-9])(....)");

        private String text = "";
        private State state = new State(List.of(), false, List.of(0, 0, 0, 0), 0);
        private List<Star> stars = List.of();
        private int law;
        private final List<State> before = new ArrayList<>();
        private final State[] kept = new State[2];
        private final List<Told> told = new ArrayList<>();
        private BigInteger seed = BigInteger.ZERO;

        // ---- the night

        long write(int letter) {
            if (letter < 0 || letter > 255) return -2;
            if (text.length() == 48) return -4;
            text += (char) letter;
            return text.length();
        }

        long wipe() {
            int was = text.length();
            text = "";
            return was;
        }

        private static boolean canGrowToNight(String start) {
            Matcher m = NIGHT.matcher(start);
            if (!m.matches() && !m.hitEnd()) return false;
            int roofs = 0;
            int suns = 0;
            List<Character> cells = new ArrayList<>();
            for (int i = 0; i < start.length(); i++) {
                if (start.charAt(i) == 'R') {
                    roofs++;
                    if (i + 1 < start.length()) {
                        if (cells.contains(start.charAt(i + 1))) return false;
                        cells.add(start.charAt(i + 1));
                    }
                }
                if (start.charAt(i) == 'S') suns++;
            }
            return roofs <= 5 && suns <= 4;
        }

        long fault() {
            for (int n = 1; n <= text.length(); n++) {
                if (!canGrowToNight(text.substring(0, n))) return n - 1;
            }
            return NIGHT.matcher(text).matches() ? -9 : text.length();
        }

        long night() {
            if (fault() != -9) return -3;
            List<Roof> roofs = new ArrayList<>();
            List<Star> suns = new ArrayList<>();
            for (String part : text.substring(2).split("(?=[RS])")) {
                if (part.isEmpty()) continue;
                int[] d = part.substring(1).chars().map(c -> c - '0').toArray();
                if (part.charAt(0) == 'R') roofs.add(new Roof(d[0], d[1], d[2] == 1, d[3]));
                else suns.add(new Star(d[0], d[1], d[2]));
            }
            law = text.charAt(1) - '0';
            stars = suns;
            state = new State(roofs, false, List.of(0, 0, 0, 0), 0);
            before.clear();
            kept[0] = null;
            kept[1] = null;
            return 10 * roofs.size() + suns.size();
        }

        private List<Integer> everyRoof() {
            List<Integer> all = new ArrayList<>();
            for (int r = 0; r < state.roofs.size(); r++) all.add(r);
            return all;
        }

        private static boolean shaded(State in, List<Integer> standing, int roof) {
            Roof own = in.roofs.get(roof);
            return standing.stream().map(in.roofs::get)
                .anyMatch(r -> (r.cell == own.cell - 1 || r.cell == own.cell + 1) && r.height >= own.height + 4);
        }

        private static boolean sees(State in, List<Integer> standing, int roof, int cell) {
            Roof own = in.roofs.get(roof);
            return !shaded(in, standing, roof) && 4 * Math.abs(own.cell - cell) <= own.height;
        }

        private static int holder(State in, List<Integer> standing, int law, int cell) {
            Comparator<Integer> nearest = Comparator.comparing(r -> Math.abs(in.roofs.get(r).cell - cell));
            Comparator<Integer> lowest = Comparator.comparing(r -> in.roofs.get(r).height);
            Comparator<Integer> first = law == 0 ? nearest : law == 1 ? lowest.reversed() : lowest;
            return standing.stream().filter(r -> sees(in, standing, r, cell))
                .min(first.thenComparing(lowest).thenComparing(Comparator.naturalOrder())).orElse(-9);
        }

        private int pay(State in, List<Integer> standing, int byLaw, Star star, int hour) {
            int holder = holder(in, standing, byLaw, star.over(hour));
            if (holder == -9) return 0;
            int worth = star.worth;
            for (int r : standing) {
                int far = in.roofs.get(r).cell - in.roofs.get(holder).cell;
                if (in.roofs.get(r).smokes && far >= -1 && far <= 1) worth--;
            }
            return Math.max(worth, 0);
        }

        private static long bits(List<Integer> set) {
            return set.stream().mapToLong(i -> 1L << i).sum();
        }

        long about(int what) {
            return switch (what) {
                case 0 -> state.roofs.size();
                case 1 -> stars.size();
                case 2 -> law;
                case 3 -> state.hour;
                case 4 -> state.clouds ? 1 : 0;
                case 5 -> bits(everyRoof().stream().filter(r -> state.roofs.get(r).smokes).toList());
                case 6 -> bits(everyRoof().stream().filter(r -> shaded(state, everyRoof(), r)).toList());
                case 7 -> before.size();
                case 8 -> told.size();
                case 9 -> text.length();
                default -> -2;
            };
        }

        private boolean noRoof(int roof) {
            return !everyRoof().contains(roof);
        }

        private boolean noStar(int star) {
            return star < 0 || star >= stars.size();
        }

        long roof(int roof, int what) {
            if (noRoof(roof)) return -1;
            if (what == 0) return state.roofs.get(roof).cell;
            if (what == 1) return state.roofs.get(roof).height;
            if (what == 2) return state.roofs.get(roof).owner;
            long found = 0;
            if (what == 3) {
                for (int c = 0; c < 10; c++) if (sees(state, everyRoof(), roof, c)) found |= 1L << c;
                return found;
            }
            if (what == 4) {
                for (int s = 0; s < stars.size(); s++) {
                    if (holder(state, everyRoof(), law, stars.get(s).over(state.hour)) == roof) found |= 1L << s;
                }
                return found;
            }
            return -2;
        }

        long star(int star, int what) {
            if (noStar(star)) return -1;
            Star it = stars.get(star);
            return switch (what) {
                case 0 -> it.over(state.hour);
                case 1 -> it.speed;
                case 2 -> it.worth;
                case 3 -> holder(state, everyRoof(), law, it.over(state.hour));
                case 4 -> state.clouds ? 0 : pay(state, everyRoof(), law, it, state.hour);
                default -> -2;
            };
        }

        long purse(int landlord) {
            return landlord < 0 || landlord > 3 ? -1 : state.purses.get(landlord);
        }

        // ---- acts

        private void act(State then) {
            before.add(state);
            if (before.size() > 14) before.remove(0);
            state = then;
        }

        long build(int roof, int height) {
            if (noRoof(roof)) return -1;
            if (height < 0 || height > 9) return -2;
            Roof was = state.roofs.get(roof);
            if (was.height == height) return -3;
            act(state.with(roof, new Roof(was.cell, height, was.smokes, was.owner)));
            return was.height;
        }

        long light(int roof) {
            if (noRoof(roof)) return -1;
            Roof was = state.roofs.get(roof);
            act(state.with(roof, new Roof(was.cell, was.height, !was.smokes, was.owner)));
            return was.smokes ? 0 : 1;
        }

        long sell(int roof, int landlord) {
            if (noRoof(roof) || landlord < 0 || landlord > 3) return -1;
            Roof was = state.roofs.get(roof);
            if (was.owner == landlord) return -3;
            act(state.with(roof, new Roof(was.cell, was.height, was.smokes, landlord)));
            return was.owner;
        }

        long clouds() {
            act(new State(state.roofs, !state.clouds, state.purses, state.hour));
            return state.clouds ? 1 : 0;
        }

        long hour() {
            List<Integer> purses = new ArrayList<>(state.purses);
            int all = 0;
            for (Star s : stars) {
                int holder = holder(state, everyRoof(), law, s.over(state.hour));
                if (holder == -9 || state.clouds) continue;
                int paid = pay(state, everyRoof(), law, s, state.hour);
                int owner = state.roofs.get(holder).owner;
                purses.set(owner, purses.get(owner) + paid);
                all += paid;
            }
            act(new State(state.roofs, state.clouds, purses, state.hour + 1));
            return all;
        }

        long undo() {
            if (before.isEmpty()) return -3;
            state = before.remove(before.size() - 1);
            return before.size();
        }

        // ---- rents

        private int rents(State in, List<Integer> standing, int byLaw, int landlord, int n) {
            int all = 0;
            for (int hour = in.hour; hour < in.hour + n && !in.clouds; hour++) {
                for (Star s : stars) {
                    int holder = holder(in, standing, byLaw, s.over(hour));
                    if (holder != -9 && (landlord == 4 || in.roofs.get(holder).owner == landlord)) {
                        all += pay(in, standing, byLaw, s, hour);
                    }
                }
            }
            return all;
        }

        long rents(int landlord, int n) {
            if (landlord < 0 || landlord > 4) return -1;
            if (n < 0 || n > 12) return -2;
            return rents(state, everyRoof(), law, landlord, n);
        }

        /** All sets of roofs, fewer ahead of more, then lesser bits ahead of greater. */
        private List<List<Integer>> sets() {
            List<List<Integer>> all = new ArrayList<>();
            for (int set = 0; set < 1 << state.roofs.size(); set++) {
                int bits = set;
                all.add(everyRoof().stream().filter(r -> (bits >> r) % 2 == 1).toList());
            }
            all.sort(Comparator.<List<Integer>>comparingInt(List::size).thenComparing(Model::bits));
            return all;
        }

        long hold(int star, int n) {
            if (noStar(star)) return -1;
            if (n < 1 || n > 10) return -2;
            for (List<Integer> set : sets()) {
                boolean always = true;
                for (int hour = state.hour; hour < state.hour + n; hour++) {
                    int cell = stars.get(star).over(hour);
                    always &= set.stream().anyMatch(r -> sees(state, everyRoof(), r, cell));
                }
                if (always) return bits(set);
            }
            return -9;
        }

        long fires(int n, int what) {
            if (n < 1 || n > 10 || what < 0 || what > 1) return -2;
            long best = -1;
            long most = -1;
            for (List<Integer> set : sets()) {
                State in = state;
                for (int r : everyRoof()) {
                    Roof was = state.roofs.get(r);
                    in = in.with(r, new Roof(was.cell, was.height, set.contains(r), was.owner));
                }
                int much = rents(in, everyRoof(), law, 4, n) + n * set.size();
                if (much > most) {
                    most = much;
                    best = bits(set);
                }
            }
            return what == 0 ? best : most;
        }

        private int orders;

        private long gains(List<Integer> come, int roof, int n) {
            long all = 0;
            if (come.size() == state.roofs.size()) {
                orders++;
                List<Integer> ahead = come.subList(0, come.indexOf(roof));
                List<Integer> then = come.subList(0, come.indexOf(roof) + 1);
                return rents(state, then, law, 4, n) - rents(state, ahead, law, 4, n);
            }
            for (int r : everyRoof()) {
                if (come.contains(r)) continue;
                List<Integer> longer = new ArrayList<>(come);
                longer.add(r);
                all += gains(longer, roof, n);
            }
            return all;
        }

        private static long fraction(long above, long below, boolean upper) {
            BigInteger a = BigInteger.valueOf(above);
            BigInteger b = BigInteger.valueOf(below);
            return (upper ? a : b).divide(a.gcd(b)).longValueExact();
        }

        long share(int roof, int n, boolean upper) {
            if (noRoof(roof)) return -1;
            if (n < 1 || n > 10) return -2;
            orders = 0;
            long gains = gains(List.of(), roof, n);
            return fraction(gains, orders, upper);
        }

        long bestLaw(int landlord, int n) {
            if (landlord < 0 || landlord > 3) return -1;
            if (n < 0 || n > 12) return -2;
            int[] by = new int[3];
            for (int l = 0; l < 3; l++) by[l] = rents(state, everyRoof(), l, landlord, n);
            if (by[0] >= by[1] && by[0] >= by[2]) return 0;
            return by[1] >= by[2] ? 1 : 2;
        }

        long starless(int n) {
            if (n < 1 || n > 10) return -2;
            for (int landlord = 0; landlord < 4; landlord++) {
                boolean has = false;
                boolean holds = false;
                for (int r : everyRoof()) {
                    if (state.roofs.get(r).owner != landlord) continue;
                    has = true;
                    for (Star s : stars) {
                        for (int i = 0; i < n; i++) {
                            holds |= holder(state, everyRoof(), law, s.over(state.hour + i)) == r;
                        }
                    }
                }
                if (has && !holds) return landlord;
            }
            return -9;
        }

        private int has(State in, int roof, int n) {
            int all = -in.roofs.get(roof).height;
            for (int i = 0; i < n && !in.clouds; i++) {
                for (Star s : stars) {
                    if (holder(in, everyRoof(), law, s.over(in.hour + i)) == roof) {
                        all += pay(in, everyRoof(), law, s, in.hour + i);
                    }
                }
            }
            return all;
        }

        private State built(State in, int roof, int height) {
            Roof was = in.roofs.get(roof);
            return in.with(roof, new Roof(was.cell, height, was.smokes, was.owner));
        }

        long rests(int roof, int other, int n, int what) {
            if (noRoof(roof) || noRoof(other)) return -1;
            if (roof == other || n < 1 || n > 10 || what < 0 || what > 1) return -2;
            int[][] one = new int[10][10];
            int[][] two = new int[10][10];
            for (int h = 0; h < 10; h++) {
                for (int g = 0; g < 10; g++) {
                    State in = built(built(state, roof, h), other, g);
                    one[h][g] = has(in, roof, n);
                    two[h][g] = has(in, other, n);
                }
            }
            int many = 0;
            int first = -9;
            for (int h = 9; h >= 0; h--) {
                for (int g = 9; g >= 0; g--) {
                    boolean still = true;
                    for (int k = 0; k < 10; k++) still &= one[k][g] <= one[h][g] && two[h][k] <= two[h][g];
                    if (still) {
                        many++;
                        first = 10 * h + g;
                    }
                }
            }
            return what == 0 ? many : first;
        }

        // ---- found

        long shine(int cell, int t, boolean shone) {
            if (cell < 0 || cell > 9 || t < 0 || t > 9) return -2;
            if (told.size() == 6) return -4;
            told.add(new Told(cell, t, shone));
            return told.size();
        }

        long unshine() {
            int was = told.size();
            told.clear();
            return was;
        }

        private List<Star> fitting() {
            List<Star> all = new ArrayList<>();
            for (int a = 0; a < 10; a++) {
                for (int w = 0; w < 4; w++) {
                    Star s = new Star(a, w, 1);
                    if (told.stream().allMatch(t -> (s.over(t.hour) == t.cell) == t.shone)) all.add(s);
                }
            }
            return all;
        }

        long found(int what) {
            if (what != 0 && what != 1) return -2;
            List<Star> all = fitting();
            if (what == 0) return all.size();
            return all.isEmpty() ? -9 : 10 * all.get(0).rise + all.get(0).speed;
        }

        long look() {
            List<Star> all = fitting();
            long best = -9;
            long least = 41;
            for (int t = 0; t < 10 && !all.isEmpty(); t++) {
                for (int c = 0; c < 10; c++) {
                    int cell = c;
                    int hour = t;
                    long over = all.stream().filter(s -> s.over(hour) == cell).count();
                    long greater = Math.max(over, all.size() - over);
                    if (greater < least) {
                        least = greater;
                        best = 10 * t + c;
                    }
                }
            }
            return best;
        }

        /** The weight of all ways that clouds can come by which the star pays in some hour. */
        private long paying(Star star, int hour, int n, int x, boolean paid) {
            if (n == 0) return paid ? 1 : 0;
            boolean pays = pay(state, everyRoof(), law, star, hour) > 0;
            return x * paying(star, hour + 1, n - 1, x, paid) + (10 - x) * paying(star, hour + 1, n - 1, x, paid | pays);
        }

        long chance(int star, int n, int x, boolean upper) {
            if (noStar(star)) return -1;
            if (n < 1 || n > 6 || x < 0 || x > 10) return -2;
            return fraction(paying(stars.get(star), state.hour, n, x, false), (long) Math.pow(10, n), upper);
        }

        long seed(long v) {
            long was = seed.longValue();
            seed = BigInteger.valueOf(v);
            return was;
        }

        long nights(int m) {
            if (m < 1 || m > 30) return -2;
            BigInteger around = BigInteger.ONE.shiftLeft(64);
            long all = 0;
            for (int i = 0; i < m; i++) {
                seed = seed.multiply(new BigInteger("6364136223846793005"))
                    .add(new BigInteger("1442695040888963407")).mod(around);
                if (seed.shiftRight(33).mod(BigInteger.valueOf(3)).signum() == 0) continue;
                for (Star s : stars) all += pay(state, everyRoof(), law, s, state.hour + i);
            }
            return all;
        }

        // ---- slots

        long keep(int slot) {
            if (slot != 0 && slot != 1) return -1;
            kept[slot] = state;
            return state.hour;
        }

        long again(int slot) {
            if (slot != 0 && slot != 1) return -1;
            if (kept[slot] == null) return -3;
            state = kept[slot];
            before.clear();
            return state.hour;
        }
    }

    /** One run: an object, its model and what was called, for the message if they part. */
    private static final class Run {
        private final int number;
        private final Dice dice;
        private final StarRight real = new StarRight();
        private final Model model = new Model();
        private final StringBuilder calls = new StringBuilder();
        private boolean parted;
        private int called;

        Run(int number) {
            this.number = number;
            dice = new Dice(number + 1);
        }

        private void same(String call, long got, long due) {
            called++;
            calls.append(call).append(" = ").append(due).append("; ");
            if (got != due && !parted) {
                parted = true;
                System.out.println("run " + number + ": " + calls + "answered " + got);
            }
        }

        /** Mostly one of 0 .. most, at times one beside them or far away. */
        private int some(int least, int most) {
            if (dice.oneIn(24)) return dice.oneIn(2) ? least - 1 : most + 1;
            if (dice.oneIn(200)) return dice.oneIn(2) ? Integer.MIN_VALUE : Integer.MAX_VALUE;
            return least + dice.below(most - least + 1);
        }

        private String someText() {
            StringBuilder t = new StringBuilder("N").append(dice.below(3));
            int roofs = dice.oneIn(3) ? dice.below(7) : 3 + dice.below(3);
            int suns = dice.oneIn(3) ? dice.below(6) : 2 + dice.below(3);
            boolean high = dice.oneIn(2);
            int from = dice.below(10);
            while (roofs + suns > 0) {
                if (dice.below(roofs + suns) < roofs) {
                    roofs--;
                    int cell = dice.oneIn(2) ? dice.below(10) : (from + roofs) % 10;
                    if (t.indexOf("R" + cell) >= 0 && !dice.oneIn(20)) cell = (cell + 3) % 10;
                    t.append('R').append(cell).append(high ? 4 + dice.below(6) : dice.below(10))
                        .append(dice.oneIn(3) ? 1 : 0).append(dice.below(4));
                } else {
                    suns--;
                    t.append('S').append(dice.below(10)).append(dice.below(4)).append(1 + dice.below(9));
                }
            }
            if (dice.oneIn(6)) t.setLength(dice.below(t.length() + 1));
            if (dice.oneIn(6) && t.length() > 0) t.setCharAt(dice.below(t.length()), "0123459RSN/:\0\u00ff".charAt(dice.below(14)));
            return t.toString();
        }

        private void newNight() {
            same("wipe()", real.wipe(), model.wipe());
            for (char c : someText().toCharArray()) {
                if (called < CALLS) same("write(" + (int) c + ")", real.write(c), model.write(c));
            }
            same("fault()", real.fault(), model.fault());
            same("night()", real.night(), model.night());
        }

        void call() {
            if (dice.oneIn(150) || called == 0) {
                newNight();
                return;
            }
            switch (dice.below(5)) {
                case 0 -> askNight();
                case 1 -> act();
                case 2 -> askRents();
                case 3 -> askFound();
                default -> askOrSlots();
            }
        }

        private void askNight() {
            int what = some(0, dice.oneIn(2) ? 9 : 4);
            int i = some(0, 4);
            switch (dice.below(6)) {
                case 0 -> same("about(" + what + ")", real.about(what), model.about(what));
                case 1 -> same("roof(" + i + ", " + what + ")", real.roof(i, what), model.roof(i, what));
                case 2 -> same("star(" + i + ", " + what + ")", real.star(i, what), model.star(i, what));
                case 3 -> same("purse(" + i + ")", real.purse(i), model.purse(i));
                case 4 -> same("fault()", real.fault(), model.fault());
                default -> {
                    int letter = some(0, 255);
                    if (dice.oneIn(8)) same("write(" + letter + ")", real.write(letter), model.write(letter));
                }
            }
        }

        private void act() {
            int r = some(0, 4);
            switch (dice.below(7)) {
                case 0 -> {
                    int h = some(0, 9);
                    same("build(" + r + ", " + h + ")", real.build(r, h), model.build(r, h));
                }
                case 1 -> same("light(" + r + ")", real.light(r), model.light(r));
                case 2 -> {
                    int l = some(0, 3);
                    same("sell(" + r + ", " + l + ")", real.sell(r, l), model.sell(r, l));
                }
                case 3 -> {
                    if (model.state.clouds() || dice.oneIn(3)) same("clouds()", real.clouds(), model.clouds());
                }
                case 4, 5 -> same("hour()", real.hour(), model.hour());
                default -> {
                    int most = dice.oneIn(8) ? 16 : 2;
                    for (int i = 0; i < most && called < CALLS; i++) same("undo()", real.undo(), model.undo());
                }
            }
        }

        private void askRents() {
            int r = some(0, 4);
            int n = some(1, 10);
            int what = some(0, 1);
            switch (dice.below(dice.oneIn(8) ? 8 : 5)) {
                case 0 -> {
                    int m = some(0, 12);
                    same("rents(" + r + ", " + m + ")", real.rents(r, m), model.rents(r, m));
                }
                case 1 -> same("hold(" + r + ", " + n + ")", real.hold(r, n), model.hold(r, n));
                case 2, 3 -> {
                    int m = some(0, 12);
                    same("bestLaw(" + r + ", " + m + ")", real.bestLaw(r, m), model.bestLaw(r, m));
                }
                case 4 -> same("starless(" + n + ")", real.starless(n), model.starless(n));
                case 5 -> same("fires(" + n + ", " + what + ")", real.fires(n, what), model.fires(n, what));
                case 6 -> {
                    if (!dice.oneIn(3)) return;
                    same("share(" + r + ", " + n + ", true)", real.share(r, n, true), model.share(r, n, true));
                    same("share(" + r + ", " + n + ", false)", real.share(r, n, false), model.share(r, n, false));
                }
                default -> {
                    int o = some(0, 4);
                    String call = "rests(" + r + ", " + o + ", " + n + ", " + what + ")";
                    same(call, real.rests(r, o, n, what), model.rests(r, o, n, what));
                }
            }
        }

        private void askFound() {
            int cell = some(0, 9);
            int t = some(0, 9);
            boolean shone = dice.oneIn(3);
            int what = some(0, 1);
            switch (dice.below(5)) {
                case 0 -> same("shine(" + cell + ", " + t + ", " + shone + ")",
                    real.shine(cell, t, shone), model.shine(cell, t, shone));
                case 1 -> {
                    if (dice.oneIn(6)) same("unshine()", real.unshine(), model.unshine());
                }
                case 2, 3 -> same("found(" + what + ")", real.found(what), model.found(what));
                default -> same("look()", real.look(), model.look());
            }
        }

        private void askOrSlots() {
            int slot = some(0, 1);
            switch (dice.below(5)) {
                case 0 -> {
                    int s = some(0, 3);
                    int n = some(1, 6);
                    int x = some(0, 10);
                    boolean upper = dice.oneIn(2);
                    String call = "chance(" + s + ", " + n + ", " + x + ", " + upper + ")";
                    same(call, real.chance(s, n, x, upper), model.chance(s, n, x, upper));
                }
                case 1 -> {
                    long v = (long) dice.below(Integer.MAX_VALUE) * dice.below(Integer.MAX_VALUE) * (dice.oneIn(2) ? 3 : -5);
                    same("seed(" + v + ")", real.seed(v), model.seed(v));
                }
                case 2 -> {
                    int m = some(1, 30);
                    same("nights(" + m + ")", real.nights(m), model.nights(m));
                }
                case 3 -> same("keep(" + slot + ")", real.keep(slot), model.keep(slot));
                default -> same("again(" + slot + ")", real.again(slot), model.again(slot));
            }
        }
    }

    public static void main(String[] args) {
        int wrong = 0;
        for (int number = 0; number < RUNS; number++) {
            Run run = new Run(number);
            for (int i = 0; i < CALLS && run.called < CALLS && !run.parted; i++) run.call();
            if (run.parted && ++wrong == 3) break;
        }
        System.out.println(wrong == 0 ? "all runs are as the model's" : wrong + " runs part from the model");
        if (wrong != 0) System.exit(1);
    }
}
