/**
 * A right to stars: roofs own the sky above them. What each call answers and
 * changes is told in ../shared/DOC.md, whose words the names here follow.
 *
 * Every array is made in a constructor and used again, so that no call makes
 * an object.
 */
public final class StarRight {
    public static final int UNKNOWN = -1, BAD = -2, LATE = -3, FULL = -4, NONE = -9;

    private static final int CELLS = 10;
    private static final int MOST_ROOFS = 5;
    private static final int ROOF_SETS = 1 << MOST_ROOFS;
    private static final int MOST_STARS = 4;
    private static final int LANDLORDS = 4;
    private static final int ALL_LANDLORDS = 4;
    private static final int LAWS = 3;
    private static final int HEIGHTS = 10;
    private static final int SPEEDS = 4;
    private static final int MOST_WORTH = 9;
    private static final int MOST_BYTES = 48;
    private static final int MOST_ACTS = 14;
    private static final int MOST_SHONE = 6;

    private static final int MOST_HOURS = 10;
    private static final int MOST_RENT_HOURS = 12;
    private static final int MOST_CHANCE_HOURS = 6;
    private static final int MOST_NIGHT_HOURS = 30;
    private static final int TENTHS = 10;

    private static final long SEED_FACTOR = 6364136223846793005L;
    private static final long SEED_STEP = 1442695040888963407L;

    /** In how many orders so many roofs can come. */
    private static final int[] ORDERS = {1, 1, 2, 6, 24, 120};

    private final Text text = new Text();
    private final Stars stars = new Stars();
    private final Town town = new Town();
    private final Town trial = new Town();
    private final Slot slot0 = new Slot();
    private final Slot slot1 = new Slot();
    private final Sight sight = new Sight();
    private final Acts acts = new Acts();
    private final Watch watch = new Watch();
    private final Contest contest = new Contest();
    private final int[] rentsBySet = new int[ROOF_SETS];
    private int law;
    private long theSeed;

    public StarRight() {
    }

    // ---- the night

    public int write(int letter) {
        if (letter < 0 || letter > 255) {
            return BAD;
        }
        if (text.isFull()) {
            return FULL;
        }
        return text.add(letter);
    }

    public int wipe() {
        return text.clear();
    }

    public int fault() {
        return text.firstFault();
    }

    public int night() {
        if (text.firstFault() != NONE) {
            return LATE;
        }
        town.clear();
        stars.clear();
        acts.clear();
        slot0.kept = false;
        slot1.kept = false;
        law = text.law();
        text.tellParts(town, stars);
        return 10 * town.roofs + stars.count;
    }

    public int about(int what) {
        switch (what) {
            case 0: return town.roofs;
            case 1: return stars.count;
            case 2: return law;
            case 3: return town.now;
            case 4: return town.cloudy ? 1 : 0;
            case 5: return town.smoking;
            case 6: return town.shadedRoofs();
            case 7: return acts.count;
            case 8: return watch.count;
            case 9: return text.length;
            default: return BAD;
        }
    }

    public int roof(int roof, int what) {
        if (!town.hasRoof(roof)) {
            return UNKNOWN;
        }
        switch (what) {
            case 0: return town.cell[roof];
            case 1: return town.height[roof];
            case 2: return town.owner[roof];
            case 3: return town.cellsSeen(roof, town.everyRoof());
            case 4:
                surveyTown();
                return starsHeldNow(roof);
            default: return BAD;
        }
    }

    /** By the last survey. */
    private int starsHeldNow(int roof) {
        int held = 0;
        for (int s = 0; s < stars.count; s++) {
            if (sight.holderOver(stars.cellAt(s, town.now)) == roof) {
                held |= 1 << s;
            }
        }
        return held;
    }

    public int star(int star, int what) {
        if (!stars.hasStar(star)) {
            return UNKNOWN;
        }
        switch (what) {
            case 0: return stars.cellAt(star, town.now);
            case 1: return stars.speed[star];
            case 2: return stars.worth[star];
            case 3:
                surveyTown();
                return sight.holderOver(stars.cellAt(star, town.now));
            case 4:
                surveyTown();
                return town.cloudy ? 0 : sight.payOf(stars, star, town.now);
            default: return BAD;
        }
    }

    public int purse(int landlord) {
        return isLandlord(landlord) ? town.purses[landlord] : UNKNOWN;
    }

    private static boolean isLandlord(int landlord) {
        return landlord >= 0 && landlord < LANDLORDS;
    }

    /** The town as it is, under the law that holds. */
    private void surveyTown() {
        sight.survey(town, town.everyRoof(), law);
    }

    // ---- acts

    public int build(int roof, int height) {
        if (!town.hasRoof(roof)) {
            return UNKNOWN;
        }
        if (height < 0 || height >= HEIGHTS) {
            return BAD;
        }
        int was = town.height[roof];
        if (was == height) {
            return LATE;
        }
        town.setHeight(roof, height);
        acts.add(Acts.BUILT, roof, was);
        return was;
    }

    public int light(int roof) {
        if (!town.hasRoof(roof)) {
            return UNKNOWN;
        }
        town.smoking ^= 1 << roof;
        acts.add(Acts.LIT, roof, 0);
        return town.smoking >> roof & 1;
    }

    public int sell(int roof, int landlord) {
        if (!town.hasRoof(roof) || !isLandlord(landlord)) {
            return UNKNOWN;
        }
        int was = town.owner[roof];
        if (was == landlord) {
            return LATE;
        }
        town.setOwner(roof, landlord);
        acts.add(Acts.SOLD, roof, was);
        return was;
    }

    public int clouds() {
        town.cloudy = !town.cloudy;
        acts.add(Acts.CLOUDS, 0, 0);
        return town.cloudy ? 1 : 0;
    }

    public int hour() {
        int paid = payPurses(1);
        town.now++;
        acts.add(Acts.HOUR, 0, 0);
        return paid;
    }

    public int undo() {
        int act = acts.takeLast();
        if (act < 0 || act >= MOST_ACTS) {
            return LATE;
        }
        int roof = acts.roof[act];
        switch (acts.kind[act]) {
            case Acts.BUILT:
                town.setHeight(roof, acts.was[act]);
                break;
            case Acts.LIT:
                town.smoking ^= 1 << roof;
                break;
            case Acts.SOLD:
                town.setOwner(roof, acts.was[act]);
                break;
            case Acts.CLOUDS:
                town.cloudy = !town.cloudy;
                break;
            default:
                // All later acts are undone, so the hour pays back just what it paid.
                town.now--;
                payPurses(-1);
                break;
        }
        return acts.count;
    }

    /** What this hour pays, put into the purses so many times; answers the sum of one time. */
    private int payPurses(int times) {
        sight.survey(town, town.everyRoof(), law);
        int all = 0;
        for (int landlord = 0; landlord < LANDLORDS; landlord++) {
            int paid = sight.takings(town, stars, town.roofsOf(landlord), 1);
            town.purses[landlord] += times * paid;
            all += paid;
        }
        return all;
    }

    // ---- rents

    public int rents(int landlord, int n) {
        if (!isLandlord(landlord) && landlord != ALL_LANDLORDS) {
            return UNKNOWN;
        }
        if (n < 0 || n > MOST_RENT_HOURS) {
            return BAD;
        }
        surveyTown();
        int takers = landlord == ALL_LANDLORDS ? town.everyRoof() : town.roofsOf(landlord);
        return sight.takings(town, stars, takers, n);
    }

    public int hold(int star, int n) {
        if (!stars.hasStar(star)) {
            return UNKNOWN;
        }
        if (!isSpan(n, MOST_HOURS)) {
            return BAD;
        }
        surveyTown();
        int needed = stars.cellsPassed(star, town.now, n);
        int best = NONE;
        for (int set = 0; set <= town.everyRoof(); set++) {
            boolean holds = (needed & ~sight.cellsSeenBy(set)) == 0;
            if (holds && (best == NONE || Integer.bitCount(set) < Integer.bitCount(best))) {
                best = set;
            }
        }
        return best;
    }

    private static boolean isSpan(int n, int most) {
        return n >= 1 && n <= most;
    }

    public int fires(int n, int what) {
        if (!isSpan(n, MOST_HOURS) || what < 0 || what > 1) {
            return BAD;
        }
        trial.copyOf(town);
        int best = 0;
        int most = gainOfFires(0, n);
        for (int set = 1; set <= town.everyRoof(); set++) {
            int gain = gainOfFires(set, n);
            boolean fewer = Integer.bitCount(set) < Integer.bitCount(best);
            if (gain > most || gain == most && fewer) {
                best = set;
                most = gain;
            }
        }
        return what == 0 ? best : most;
    }

    private int gainOfFires(int set, int n) {
        trial.smoking = set;
        sight.survey(trial, trial.everyRoof(), law);
        return sight.takings(trial, stars, trial.everyRoof(), n) + n * Integer.bitCount(set);
    }

    public int share(int roof, int n, boolean upper) {
        if (!town.hasRoof(roof)) {
            return UNKNOWN;
        }
        if (!isSpan(n, MOST_HOURS)) {
            return BAD;
        }
        for (int set = 0; set <= town.everyRoof() && set < ROOF_SETS; set++) {
            sight.survey(town, set, law);
            rentsBySet[set] = sight.takings(town, stars, set, n);
        }
        return fraction(gainInAllOrders(roof), orders(town.roofs), upper);
    }

    private int gainInAllOrders(int roof) {
        int sum = 0;
        int own = 1 << roof;
        for (int set = 0; set <= town.everyRoof() && set < ROOF_SETS; set++) {
            if ((set & own) != 0) {
                int ahead = Integer.bitCount(set) - 1;
                int behind = town.roofs - 1 - ahead;
                int more = rentsBySet[set] - rentsBySet[set & ~own];
                sum += more * orders(ahead) * orders(behind);
            }
        }
        return sum;
    }

    private static int orders(int roofs) {
        return roofs >= 0 && roofs < ORDERS.length ? ORDERS[roofs] : 0;
    }

    public int bestLaw(int landlord, int n) {
        if (!isLandlord(landlord)) {
            return UNKNOWN;
        }
        if (n < 0 || n > MOST_RENT_HOURS) {
            return BAD;
        }
        int best = 0;
        int most = rentsByLaw(0, landlord, n);
        for (int other = 1; other < LAWS; other++) {
            int paid = rentsByLaw(other, landlord, n);
            if (paid > most) {
                best = other;
                most = paid;
            }
        }
        return best;
    }

    private int rentsByLaw(int anyLaw, int landlord, int n) {
        sight.survey(town, town.everyRoof(), anyLaw);
        return sight.takings(town, stars, town.roofsOf(landlord), n);
    }

    public int starless(int n) {
        if (!isSpan(n, MOST_HOURS)) {
            return BAD;
        }
        surveyTown();
        int holders = sight.holders(stars, town.now, n);
        for (int landlord = 0; landlord < LANDLORDS; landlord++) {
            int own = town.roofsOf(landlord);
            if (own != 0 && (own & holders) == 0) {
                return landlord;
            }
        }
        return NONE;
    }

    public int rests(int roof, int other, int n, int what) {
        if (!town.hasRoof(roof) || !town.hasRoof(other)) {
            return UNKNOWN;
        }
        if (roof == other || !isSpan(n, MOST_HOURS) || what < 0 || what > 1) {
            return BAD;
        }
        trial.copyOf(town);
        for (int pair = 0; pair < Contest.PAIRS; pair++) {
            tryHeights(roof, other, n, pair);
        }
        return what == 0 ? contest.pairsAtRest() : contest.firstAtRest();
    }

    private void tryHeights(int roof, int other, int n, int pair) {
        int height = Contest.heightOfFirst(pair);
        int otherHeight = Contest.heightOfOther(pair);
        trial.setHeight(roof, height);
        trial.setHeight(other, otherHeight);
        sight.survey(trial, trial.everyRoof(), law);
        int gain = sight.takings(trial, stars, 1 << roof, n) - height;
        int otherGain = sight.takings(trial, stars, 1 << other, n) - otherHeight;
        contest.put(pair, gain, otherGain);
    }

    // ---- found

    public int shine(int cell, int t, boolean shone) {
        if (cell < 0 || cell >= CELLS || t < 0 || t >= MOST_HOURS) {
            return BAD;
        }
        if (watch.isFull()) {
            return FULL;
        }
        return watch.add(cell, t, shone);
    }

    public int unshine() {
        return watch.clear();
    }

    public int found(int what) {
        if (what < 0 || what > 1) {
            return BAD;
        }
        long fitting = watch.fittingStars();
        return what == 0 ? Long.bitCount(fitting) : Watch.firstOf(fitting);
    }

    public int look() {
        return watch.bestLook();
    }

    public int chance(int star, int n, int x, boolean upper) {
        if (!stars.hasStar(star)) {
            return UNKNOWN;
        }
        if (!isSpan(n, MOST_CHANCE_HOURS) || x < 0 || x > TENTHS) {
            return BAD;
        }
        surveyTown();
        int all = 1;
        int allClouded = 1;
        for (int i = 0; i < n; i++) {
            if (sight.payOf(stars, star, town.now + i) > 0) {
                all *= TENTHS;
                allClouded *= x;
            }
        }
        return fraction(all - allClouded, all, upper);
    }

    private static int fraction(int above, int below, boolean upper) {
        int divisor = commonDivisor(Math.abs(above), below);
        int told = upper ? above : below;
        return divisor == 0 ? told : told / divisor;
    }

    private static int commonDivisor(int one, int two) {
        int a = one;
        int b = two;
        // Every second step halves a, so an int's 31 bits are through in 62.
        for (int step = 0; step < 64 && b != 0; step++) {
            int left = a % b;
            a = b;
            b = left;
        }
        return a;
    }

    public long seed(long v) {
        long was = theSeed;
        theSeed = v;
        return was;
    }

    public int nights(int m) {
        if (!isSpan(m, MOST_NIGHT_HOURS)) {
            return BAD;
        }
        surveyTown();
        int all = 0;
        for (int i = 0; i < m; i++) {
            theSeed = theSeed * SEED_FACTOR + SEED_STEP;
            boolean cloudsThen = (theSeed >>> 33) % 3 == 0;
            if (!cloudsThen) {
                all += sight.paidAt(stars, town.everyRoof(), town.now + i);
            }
        }
        return all;
    }

    // ---- slots

    public int keep(int slot) {
        Slot into = slotOf(slot);
        if (into == null) {
            return UNKNOWN;
        }
        into.town.copyOf(town);
        into.kept = true;
        return town.now;
    }

    public int again(int slot) {
        Slot from = slotOf(slot);
        if (from == null) {
            return UNKNOWN;
        }
        if (!from.kept) {
            return LATE;
        }
        town.copyOf(from.town);
        acts.clear();
        return town.now;
    }

    private Slot slotOf(int slot) {
        switch (slot) {
            case 0: return slot0;
            case 1: return slot1;
            default: return null;
        }
    }

    /** THE TEXT, and how it is read as a NIGHT. */
    private static final class Text {
        private static final int NO_BYTE = -1;
        private static final int FIRST_PART = 2;
        private static final int ROOF_BYTES = 5;
        private static final int STAR_BYTES = 4;

        private final int[] bytes = new int[MOST_BYTES];
        private int length;

        boolean isFull() {
            return length >= MOST_BYTES;
        }

        int add(int letter) {
            if (!isFull()) {
                bytes[length] = letter;
                length++;
            }
            return length;
        }

        int clear() {
            int was = length;
            length = 0;
            return was;
        }

        /** Behind its end there is no byte that fits, so an end too early is a fault at its length. */
        private int byteAt(int place) {
            return place >= 0 && place < length && place < MOST_BYTES ? bytes[place] : NO_BYTE;
        }

        private int digitAt(int place) {
            return byteAt(place) - '0';
        }

        private boolean hasDigit(int place, int least, int most) {
            return digitAt(place) >= least && digitAt(place) <= most;
        }

        int firstFault() {
            if (byteAt(0) != 'N') {
                return 0;
            }
            if (!hasDigit(1, 0, LAWS - 1)) {
                return 1;
            }
            int roofs = 0;
            int stars = 0;
            int taken = 0;
            int at = FIRST_PART;
            int wrong = NONE;
            while (at < length && wrong == NONE) {
                if (byteAt(at) == 'R' && roofs < MOST_ROOFS) {
                    wrong = faultInRoof(at, taken);
                    taken |= 1 << digitAt(at + 1);
                    roofs++;
                    at += ROOF_BYTES;
                } else if (byteAt(at) == 'S' && stars < MOST_STARS) {
                    wrong = faultInStar(at);
                    stars++;
                    at += STAR_BYTES;
                } else {
                    return at;
                }
            }
            return wrong;
        }

        private int faultInRoof(int at, int taken) {
            if (!hasDigit(at + 1, 0, CELLS - 1) || (taken >> digitAt(at + 1) & 1) != 0) {
                return at + 1;
            }
            if (!hasDigit(at + 2, 0, HEIGHTS - 1)) {
                return at + 2;
            }
            if (!hasDigit(at + 3, 0, 1)) {
                return at + 3;
            }
            return hasDigit(at + 4, 0, LANDLORDS - 1) ? NONE : at + 4;
        }

        private int faultInStar(int at) {
            if (!hasDigit(at + 1, 0, CELLS - 1)) {
                return at + 1;
            }
            if (!hasDigit(at + 2, 0, SPEEDS - 1)) {
                return at + 2;
            }
            return hasDigit(at + 3, 1, MOST_WORTH) ? NONE : at + 3;
        }

        /** Only of a text without a fault. */
        int law() {
            return digitAt(1);
        }

        /** Only of a text without a fault. */
        void tellParts(Town town, Stars stars) {
            int at = FIRST_PART;
            while (at < length) {
                if (byteAt(at) == 'R') {
                    town.addRoof(digitAt(at + 1), digitAt(at + 2), digitAt(at + 3), digitAt(at + 4));
                    at += ROOF_BYTES;
                } else {
                    stars.addStar(digitAt(at + 1), digitAt(at + 2), digitAt(at + 3));
                    at += STAR_BYTES;
                }
            }
        }
    }

    /** The STARS of THE NIGHT, which no act changes. */
    private static final class Stars {
        private final int[] rise = new int[MOST_STARS];
        private final int[] speed = new int[MOST_STARS];
        private final int[] worth = new int[MOST_STARS];
        private int count;

        void clear() {
            count = 0;
        }

        void addStar(int cell, int cellsAnHour, int itsWorth) {
            if (count < MOST_STARS) {
                rise[count] = cell;
                speed[count] = cellsAnHour;
                worth[count] = itsWorth;
                count++;
            }
        }

        boolean hasStar(int star) {
            return star >= 0 && star < count && star < MOST_STARS;
        }

        int worthOf(int star) {
            return hasStar(star) ? worth[star] : 0;
        }

        int cellAt(int star, int hour) {
            return hasStar(star) ? walkedTo(rise[star], speed[star], hour) : 0;
        }

        /** After ten hours every walk is where it began, so the hour's last digit does, and cannot overflow. */
        static int walkedTo(int from, int cellsAnHour, int hour) {
            return (from + cellsAnHour * (hour % CELLS)) % CELLS;
        }

        int cellsPassed(int star, int from, int n) {
            int cells = 0;
            for (int i = 0; i < n; i++) {
                cells |= 1 << cellAt(star, from + i);
            }
            return cells;
        }
    }

    /** All that acts change and slots keep: ROOFS, CLOUDS, PURSES, THE HOUR. */
    private static final class Town {
        private static final int SHADE = 3;
        private static final int HEIGHT_FOR_A_CELL = 4;

        private final int[] cell = new int[MOST_ROOFS];
        private final int[] height = new int[MOST_ROOFS];
        private final int[] owner = new int[MOST_ROOFS];
        private final int[] purses = new int[LANDLORDS];
        private int roofs;
        private int smoking;
        private int now;
        private boolean cloudy;

        void clear() {
            roofs = 0;
            smoking = 0;
            now = 0;
            cloudy = false;
            for (int landlord = 0; landlord < LANDLORDS; landlord++) {
                purses[landlord] = 0;
            }
        }

        void copyOf(Town other) {
            System.arraycopy(other.cell, 0, cell, 0, MOST_ROOFS);
            System.arraycopy(other.height, 0, height, 0, MOST_ROOFS);
            System.arraycopy(other.owner, 0, owner, 0, MOST_ROOFS);
            System.arraycopy(other.purses, 0, purses, 0, LANDLORDS);
            roofs = other.roofs;
            smoking = other.smoking;
            now = other.now;
            cloudy = other.cloudy;
        }

        void addRoof(int itsCell, int itsHeight, int smokes, int landlord) {
            if (roofs < MOST_ROOFS) {
                cell[roofs] = itsCell;
                height[roofs] = itsHeight;
                owner[roofs] = landlord;
                smoking |= smokes << roofs;
                roofs++;
            }
        }

        boolean hasRoof(int roof) {
            return roof >= 0 && roof < roofs && roof < MOST_ROOFS;
        }

        void setHeight(int roof, int itsHeight) {
            if (hasRoof(roof)) {
                height[roof] = itsHeight;
            }
        }

        void setOwner(int roof, int landlord) {
            if (hasRoof(roof)) {
                owner[roof] = landlord;
            }
        }

        /** As bits; of all subsets of ROOFS it is the last. */
        int everyRoof() {
            return (1 << roofs) - 1;
        }

        int roofsOf(int landlord) {
            int own = 0;
            for (int r = 0; r < MOST_ROOFS; r++) {
                if (hasRoof(r) && owner[r] == landlord) {
                    own |= 1 << r;
                }
            }
            return own;
        }

        int shadedRoofs() {
            int shaded = 0;
            for (int r = 0; r < MOST_ROOFS; r++) {
                if (isShaded(r, everyRoof())) {
                    shaded |= 1 << r;
                }
            }
            return shaded;
        }

        private int distance(int roof, int toCell) {
            return hasRoof(roof) ? Math.abs(cell[roof] - toCell) : CELLS;
        }

        private boolean isShaded(int roof, int standing) {
            if (!hasRoof(roof)) {
                return false;
            }
            for (int r = 0; r < MOST_ROOFS; r++) {
                boolean beside = (standing >> r & 1) != 0 && distance(r, cell[roof]) == 1;
                if (beside && height[r] > height[roof] + SHADE) {
                    return true;
                }
            }
            return false;
        }

        /** The cells that a roof sees, as bits, if of all roofs only those stand. */
        int cellsSeen(int roof, int standing) {
            if (!hasRoof(roof) || isShaded(roof, standing)) {
                return 0;
            }
            int reach = height[roof] / HEIGHT_FOR_A_CELL;
            int seen = 0;
            for (int c = 0; c < CELLS; c++) {
                if (distance(roof, c) <= reach) {
                    seen |= 1 << c;
                }
            }
            return seen;
        }

        int smokeAround(int roof, int standing) {
            int smokes = 0;
            for (int r = 0; r < MOST_ROOFS && hasRoof(roof); r++) {
                boolean burns = (standing & smoking & 1 << r) != 0;
                if (burns && distance(r, cell[roof]) <= 1) {
                    smokes++;
                }
            }
            return smokes;
        }

        /** By the law, does one roof hold a star over the cell, and not the other, told earlier? */
        boolean goesAhead(int roof, int earlier, int byLaw, int overCell) {
            if (!hasRoof(roof) || !hasRoof(earlier)) {
                return false;
            }
            int less = 0;
            if (byLaw == 0) {
                less = distance(earlier, overCell) - distance(roof, overCell);
            } else if (byLaw == 1) {
                less = height[roof] - height[earlier];
            }
            return less != 0 ? less > 0 : height[roof] < height[earlier];
        }
    }

    /** A town kept, to go on from. */
    private static final class Slot {
        private final Town town = new Town();
        private boolean kept;
    }

    /** Who holds what is over each cell, worked out once for a town, those that stand and a law. */
    private static final class Sight {
        private final int[] seen = new int[MOST_ROOFS];
        private final int[] smoke = new int[MOST_ROOFS];
        private final int[] holder = new int[CELLS];

        void survey(Town town, int standing, int byLaw) {
            for (int r = 0; r < MOST_ROOFS; r++) {
                boolean stands = (standing >> r & 1) != 0;
                seen[r] = stands ? town.cellsSeen(r, standing) : 0;
                smoke[r] = stands ? town.smokeAround(r, standing) : 0;
            }
            for (int c = 0; c < CELLS; c++) {
                holder[c] = holderByLaw(town, byLaw, c);
            }
        }

        private int holderByLaw(Town town, int byLaw, int overCell) {
            int best = NONE;
            for (int r = 0; r < MOST_ROOFS; r++) {
                boolean sees = (seen[r] >> overCell & 1) != 0;
                if (sees && (best == NONE || town.goesAhead(r, best, byLaw, overCell))) {
                    best = r;
                }
            }
            return best;
        }

        int cellsSeenBy(int set) {
            int cells = 0;
            for (int r = 0; r < MOST_ROOFS; r++) {
                if ((set >> r & 1) != 0) {
                    cells |= seen[r];
                }
            }
            return cells;
        }

        int holderOver(int overCell) {
            return overCell >= 0 && overCell < CELLS ? holder[overCell] : NONE;
        }

        /** As bits, whatever the clouds. */
        int holders(Stars stars, int from, int n) {
            int holders = 0;
            for (int s = 0; s < stars.count; s++) {
                for (int i = 0; i < n; i++) {
                    int roof = holderOver(stars.cellAt(s, from + i));
                    holders |= roof == NONE ? 0 : 1 << roof;
                }
            }
            return holders;
        }

        /** What a star pays at an hour without clouds. */
        int payOf(Stars stars, int star, int hour) {
            return payTo(holderOver(stars.cellAt(star, hour)), stars.worthOf(star));
        }

        private int payTo(int roof, int worth) {
            return roof >= 0 && roof < MOST_ROOFS ? Math.max(0, worth - smoke[roof]) : 0;
        }

        /** What those of the roofs get at an hour without clouds. */
        int paidAt(Stars stars, int takers, int hour) {
            int paid = 0;
            for (int s = 0; s < stars.count; s++) {
                int roof = holderOver(stars.cellAt(s, hour));
                if (roof != NONE && (takers >> roof & 1) != 0) {
                    paid += payTo(roof, stars.worthOf(s));
                }
            }
            return paid;
        }

        /** What those of the roofs get in so many hours from now on, the clouds staying as they are. */
        int takings(Town town, Stars stars, int takers, int n) {
            int paid = 0;
            for (int i = 0; i < n && !town.cloudy; i++) {
                paid += paidAt(stars, takers, town.now + i);
            }
            return paid;
        }
    }

    /** The row of ACTS, the last ones only. */
    private static final class Acts {
        private static final int BUILT = 0;
        private static final int LIT = 1;
        private static final int SOLD = 2;
        private static final int CLOUDS = 3;
        private static final int HOUR = 4;

        private final int[] kind = new int[MOST_ACTS];
        private final int[] roof = new int[MOST_ACTS];
        private final int[] was = new int[MOST_ACTS];
        private int count;

        void clear() {
            count = 0;
        }

        void add(int itsKind, int itsRoof, int itWas) {
            if (count >= MOST_ACTS) {
                forgetFirst();
            }
            kind[count] = itsKind;
            roof[count] = itsRoof;
            was[count] = itWas;
            count++;
        }

        private void forgetFirst() {
            count = MOST_ACTS - 1;
            System.arraycopy(kind, 1, kind, 0, count);
            System.arraycopy(roof, 1, roof, 0, count);
            System.arraycopy(was, 1, was, 0, count);
        }

        /** Its place in the row, to be read until another one comes; NONE if there is none. */
        int takeLast() {
            if (count <= 0) {
                return NONE;
            }
            count--;
            return count;
        }
    }

    /** What two roofs have by each pair of heights. */
    private static final class Contest {
        private static final int PAIRS = HEIGHTS * HEIGHTS;

        private final int[] gain = new int[PAIRS];
        private final int[] otherGain = new int[PAIRS];

        static int heightOfFirst(int pair) {
            return pair / HEIGHTS;
        }

        static int heightOfOther(int pair) {
            return pair % HEIGHTS;
        }

        void put(int pair, int itsGain, int othersGain) {
            if (pair >= 0 && pair < PAIRS) {
                gain[pair] = itsGain;
                otherGain[pair] = othersGain;
            }
        }

        private boolean isAtRest(int pair) {
            if (pair < 0 || pair >= PAIRS) {
                return false;
            }
            for (int h = 0; h < HEIGHTS; h++) {
                int changed = h * HEIGHTS + heightOfOther(pair);
                int otherChanged = heightOfFirst(pair) * HEIGHTS + h;
                if (gain[changed] > gain[pair] || otherGain[otherChanged] > otherGain[pair]) {
                    return false;
                }
            }
            return true;
        }

        int pairsAtRest() {
            int pairs = 0;
            for (int pair = 0; pair < PAIRS; pair++) {
                if (isAtRest(pair)) {
                    pairs++;
                }
            }
            return pairs;
        }

        int firstAtRest() {
            for (int pair = 0; pair < PAIRS; pair++) {
                if (isAtRest(pair)) {
                    return pair;
                }
            }
            return NONE;
        }
    }

    /** What SHONE, and which of the 40 STARS there can be are FOUND by it. */
    private static final class Watch {
        private static final int KINDS = CELLS * SPEEDS;

        private final int[] cell = new int[MOST_SHONE];
        private final int[] hour = new int[MOST_SHONE];
        private final boolean[] shone = new boolean[MOST_SHONE];
        private int count;

        boolean isFull() {
            return count >= MOST_SHONE;
        }

        int add(int overCell, int t, boolean itShone) {
            if (!isFull()) {
                cell[count] = overCell;
                hour[count] = t;
                shone[count] = itShone;
                count++;
            }
            return count;
        }

        int clear() {
            int was = count;
            count = 0;
            return was;
        }

        private static boolean isOver(int kind, int overCell, int t) {
            return Stars.walkedTo(kind / SPEEDS, kind % SPEEDS, t) == overCell;
        }

        private boolean fits(int kind) {
            for (int i = 0; i < count && i < MOST_SHONE; i++) {
                if (isOver(kind, cell[i], hour[i]) != shone[i]) {
                    return false;
                }
            }
            return true;
        }

        /** As bits, by where they rise, then how fast. */
        long fittingStars() {
            long fitting = 0;
            for (int kind = 0; kind < KINDS; kind++) {
                if (fits(kind)) {
                    fitting |= 1L << kind;
                }
            }
            return fitting;
        }

        static int firstOf(long fitting) {
            for (int kind = 0; kind < KINDS; kind++) {
                if ((fitting >> kind & 1) != 0) {
                    return 10 * (kind / SPEEDS) + kind % SPEEDS;
                }
            }
            return NONE;
        }

        int bestLook() {
            long fitting = fittingStars();
            int best = NONE;
            int least = KINDS + 1;
            for (int place = 0; place < MOST_HOURS * CELLS && fitting != 0; place++) {
                int greater = greaterPart(fitting, place / CELLS, place % CELLS);
                if (greater < least) {
                    best = place;
                    least = greater;
                }
            }
            return best;
        }

        private static int greaterPart(long fitting, int t, int overCell) {
            int over = 0;
            for (int kind = 0; kind < KINDS; kind++) {
                if ((fitting >> kind & 1) != 0 && isOver(kind, overCell, t)) {
                    over++;
                }
            }
            return Math.max(over, Long.bitCount(fitting) - over);
        }
    }
}
