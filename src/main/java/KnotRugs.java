/** A rug that two weavers knot, each of whom sees one half. */
public final class KnotRugs {
    private static final int WIDE = 12;
    private static final int HIGH = 10;
    private static final int HALF_WIDE = 6;
    private static final int HALF_CELLS = 60;
    private static final int WEAVERS = 2;
    private static final int COLOURS = 8;
    private static final int MOST_SPEED = 6;
    private static final int MOST_RUNS = 20;
    private static final int MOST_RUN_KNOTS = 60;
    private static final int MOST_WOOL = 200;
    private static final int FIRST_WOOL = 30;
    private static final int MOST_HOURS = 60;
    private static final int MOST_HOURS_AHEAD = 100;
    private static final int COUNTS = 8;
    private static final int WEAVER_NUMBERS = 7;
    private static final int NONE = -1;
    private static final int UNSEEN = -2;

    private final Rug rug;
    /** Made once and overwritten by each look ahead, so that no call makes objects. */
    private final Rug trial;

    public KnotRugs() {
        rug = new Rug();
        trial = new Rug();
    }

    // ---- plan and wool

    public int plan(int x, int y, int wide, int high, int colour)
            throws IndexOutOfBoundsException, IllegalArgumentException {
        checkCell(x, y);
        checkRange(wide, 1, WIDE - x);
        checkRange(high, 1, HIGH - y);
        checkColour(colour);
        int changed = 0;
        for (int row = y; row < y + high; row++) {
            for (int column = x; column < x + wide; column++) {
                if (rug.ownerOf(column).planCell(placeOf(column, row), colour)) {
                    changed++;
                }
            }
        }
        return changed;
    }

    public int bring(int colour, int knots) throws IllegalArgumentException {
        checkColour(colour);
        checkRange(knots, 1, MOST_WOOL);
        return rug.baskets.fill(colour, knots);
    }

    // ---- weavers

    public int setSpeed(int weaver, int speed) throws IndexOutOfBoundsException, IllegalArgumentException {
        checkWeaver(weaver);
        checkRange(speed, 1, MOST_SPEED);
        Weaver who = rug.weaverAt(weaver);
        int before = who.speed;
        who.speed = speed;
        return before;
    }

    public int tell(int weaver, int colour, int knots)
            throws IndexOutOfBoundsException, IllegalArgumentException, IllegalStateException {
        checkWeaver(weaver);
        checkColour(colour);
        checkRange(knots, 1, MOST_RUN_KNOTS);
        Weaver who = rug.weaverAt(weaver);
        if (who.told >= MOST_RUNS) {
            throw new IllegalStateException("the weaver has 20 runs");
        }
        who.addRun(colour, knots);
        return who.told;
    }

    public int hush(int weaver) throws IndexOutOfBoundsException {
        checkWeaver(weaver);
        Weaver who = rug.weaverAt(weaver);
        int knots = who.toldInAll();
        who.told = 0;
        return knots;
    }

    public int unpick(int weaver, int knots)
            throws IndexOutOfBoundsException, IllegalArgumentException, IllegalStateException {
        checkWeaver(weaver);
        checkRange(knots, 1, HALF_CELLS);
        Weaver who = rug.weaverAt(weaver);
        if (who.made < knots) {
            throw new IllegalStateException("the half has not so many knots");
        }
        who.undo(knots, rug.baskets);
        rug.unpicked += knots;
        return who.made;
    }

    // ---- what is there

    public int cell(int x, int y, int what) throws IndexOutOfBoundsException {
        checkCell(x, y);
        checkIndex(what, 2);
        return what == 0 ? rug.knotAt(x, y) : rug.planAt(x, y);
    }

    public int sees(int weaver, int x, int y) throws IndexOutOfBoundsException {
        checkWeaver(weaver);
        checkCell(x, y);
        boolean own = weaver == sideOf(x);
        boolean besideSeam = x == HALF_WIDE - 1 || x == HALF_WIDE;
        if (own || besideSeam && rug.weaverAt(weaver).rowsDone() > y) {
            return rug.knotAt(x, y);
        }
        return UNSEEN;
    }

    public int weaver(int weaver, int what) throws IndexOutOfBoundsException {
        checkWeaver(weaver);
        checkIndex(what, WEAVER_NUMBERS);
        return rug.weaverAt(weaver).number(what);
    }

    public int run(int weaver, int index, int what) throws IndexOutOfBoundsException {
        checkWeaver(weaver);
        Weaver who = rug.weaverAt(weaver);
        checkIndex(index, who.told);
        checkIndex(what, 2);
        return what == 0 ? at(who.toldColours, index) : at(who.toldKnots, index);
    }

    public int count(int what) throws IndexOutOfBoundsException {
        checkIndex(what, COUNTS);
        return rug.number(what);
    }

    public int wool(int colour) throws IllegalArgumentException {
        checkColour(colour);
        return at(rug.baskets.left, colour);
    }

    // ---- telling and mending

    public int advise(int weaver) throws IndexOutOfBoundsException {
        checkWeaver(weaver);
        Weaver who = rug.weaverAt(weaver);
        if (who.isHalfDone()) {
            return NONE;
        }
        return 100 * at(who.planned, who.made) + who.alikeAhead();
    }

    public int runs(int weaver) throws IndexOutOfBoundsException {
        checkWeaver(weaver);
        return rug.weaverAt(weaver).fewestRuns();
    }

    public int mends(int weaver) throws IndexOutOfBoundsException {
        checkWeaver(weaver);
        Weaver who = rug.weaverAt(weaver);
        return who.made - who.firstOffPlan();
    }

    // ---- hours

    public int pass(int hours) throws IllegalArgumentException {
        checkRange(hours, 1, MOST_HOURS);
        return rug.letGoBy(hours);
    }

    public int done(int weaver) throws IndexOutOfBoundsException {
        checkWeaver(weaver);
        // The other weaver takes from the same baskets, so both are tried.
        trial.becomeLike(rug);
        Weaver who = trial.weaverAt(weaver);
        for (int hours = 0; hours <= MOST_HOURS_AHEAD; hours++) {
            if (!who.hasWork()) {
                return hours;
            }
            trial.letGoBy(1);
        }
        return NONE;
    }

    public int foresee(int hours, int what) throws IllegalArgumentException, IndexOutOfBoundsException {
        checkRange(hours, 1, MOST_HOURS);
        checkIndex(what, 3);
        trial.becomeLike(rug);
        trial.letGoBy(hours);
        if (what == 0) {
            return trial.knots();
        }
        return what == 1 ? trial.offPlan() : trial.tornRows();
    }

    public double share() {
        int knots = rug.knots();
        if (knots <= 0) {
            return 0;
        }
        return (double) (knots - rug.offPlan()) / (double) knots;
    }

    public long digest() {
        long d = 983;
        for (int what = 0; what < COUNTS; what++) {
            d = mix(d, rug.number(what));
        }
        for (int y = 0; y < HIGH; y++) {
            for (int x = 0; x < WIDE; x++) {
                d = mix(d, rug.knotAt(x, y));
                d = mix(d, rug.planAt(x, y));
            }
        }
        for (int side = 0; side < WEAVERS; side++) {
            d = rug.weaverAt(side).mixInto(d);
        }
        for (int colour = 0; colour < COLOURS; colour++) {
            d = mix(d, at(rug.baskets.left, colour));
        }
        return d;
    }

    // ---- tests of arguments

    private static void checkWeaver(int weaver) {
        checkIndex(weaver, WEAVERS);
    }

    private static void checkCell(int x, int y) {
        checkIndex(x, WIDE);
        checkIndex(y, HIGH);
    }

    private static void checkColour(int colour) {
        checkRange(colour, 0, COLOURS - 1);
    }

    private static void checkIndex(int index, int size) {
        if (index < 0 || index >= size) {
            throw new IndexOutOfBoundsException("there is no such place");
        }
    }

    private static void checkRange(int value, int least, int most) {
        if (value < least || value > most) {
            throw new IllegalArgumentException("the number is too small or too great");
        }
    }

    // ---- rows and cells

    private static int at(int[] row, int place) {
        return place >= 0 && place < row.length ? row[place] : NONE;
    }

    private static void put(int[] row, int place, int value) {
        if (place >= 0 && place < row.length) {
            row[place] = value;
        }
    }

    private static void copyRow(int[] from, int[] to) {
        for (int i = 0; i < from.length && i < to.length; i++) {
            to[i] = from[i];
        }
    }

    private static int sideOf(int x) {
        return x < HALF_WIDE ? 0 : 1;
    }

    /** The place of a cell in the order in which its weaver knots. */
    private static int placeOf(int x, int y) {
        return HALF_WIDE * y + (x < HALF_WIDE ? x : WIDE - 1 - x);
    }

    private static long mix(long d, int x) {
        return d * 31 + x;
    }

    /** All that an hour changes, and the plan. */
    private static final class Rug {
        private final Weaver leftWeaver = new Weaver(0);
        private final Weaver rightWeaver = new Weaver(1);
        private final Baskets baskets = new Baskets();
        private int hour = 0;
        private int unpicked = 0;

        Weaver weaverAt(int side) {
            return side == 0 ? leftWeaver : rightWeaver;
        }

        Weaver ownerOf(int x) {
            return weaverAt(sideOf(x));
        }

        int knotAt(int x, int y) {
            return ownerOf(x).knotAtPlace(placeOf(x, y));
        }

        int planAt(int x, int y) {
            return at(ownerOf(x).planned, placeOf(x, y));
        }

        void becomeLike(Rug other) {
            leftWeaver.becomeLike(other.leftWeaver);
            rightWeaver.becomeLike(other.rightWeaver);
            copyRow(other.baskets.left, baskets.left);
            hour = other.hour;
            unpicked = other.unpicked;
        }

        int letGoBy(int hours) {
            int knots = 0;
            for (int i = 0; i < hours; i++) {
                knots += leftWeaver.workAnHour(baskets);
                knots += rightWeaver.workAnHour(baskets);
                hour++;
            }
            return knots;
        }

        int number(int what) {
            switch (what) {
                case 0: return hour;
                case 1: return knots();
                case 2: return offPlan();
                case 3: return rowsDone();
                case 4: return tornRows();
                case 5: return baskets.inAll();
                case 6: return baskets.empty();
                default: return unpicked;
            }
        }

        int knots() {
            return leftWeaver.made + rightWeaver.made;
        }

        int offPlan() {
            return leftWeaver.offPlan() + rightWeaver.offPlan();
        }

        int rowsDone() {
            return Math.min(leftWeaver.rowsDone(), rightWeaver.rowsDone());
        }

        int tornRows() {
            int torn = 0;
            int rows = rowsDone();
            for (int y = 0; y < rows; y++) {
                // Both weavers reach the seam with the last knot of a row.
                int place = placeOf(HALF_WIDE, y);
                boolean alike = at(leftWeaver.knotted, place) == at(rightWeaver.knotted, place);
                boolean planAlike = at(leftWeaver.planned, place) == at(rightWeaver.planned, place);
                if (alike != planAlike) {
                    torn++;
                }
            }
            return torn;
        }
    }

    /** A weaver with the own half, whose cells stand in the order in which they are knotted. */
    private static final class Weaver {
        private final int side;
        private final int[] planned = new int[HALF_CELLS];
        private final int[] knotted = new int[HALF_CELLS];
        private final int[] toldColours = new int[MOST_RUNS];
        private final int[] toldKnots = new int[MOST_RUNS];
        private int speed = 1;
        private int told = 0;
        private int made = 0;
        private int inAnotherColour = 0;

        Weaver(int side) {
            this.side = side;
        }

        void becomeLike(Weaver other) {
            copyRow(other.planned, planned);
            copyRow(other.knotted, knotted);
            copyRow(other.toldColours, toldColours);
            copyRow(other.toldKnots, toldKnots);
            speed = other.speed;
            told = other.told;
            made = other.made;
            inAnotherColour = other.inAnotherColour;
        }

        /** Answers whether the plan had another colour there. */
        boolean planCell(int place, int colour) {
            boolean changed = at(planned, place) != colour;
            put(planned, place, colour);
            return changed;
        }

        int knotAtPlace(int place) {
            return place < made ? at(knotted, place) : NONE;
        }

        boolean isHalfDone() {
            return made >= HALF_CELLS;
        }

        boolean hasWork() {
            return told > 0 && !isHalfDone();
        }

        int rowsDone() {
            return made / HALF_WIDE;
        }

        void addRun(int colour, int knots) {
            put(toldColours, told, colour);
            put(toldKnots, told, knots);
            told++;
        }

        int toldInAll() {
            int knots = 0;
            for (int i = 0; i < told; i++) {
                knots += at(toldKnots, i);
            }
            return knots;
        }

        int workAnHour(Baskets baskets) {
            int knots = 0;
            while (knots < speed && hasWork() && knotNext(baskets)) {
                knots++;
            }
            return knots;
        }

        /** Answers false, and knots nothing, if all baskets are empty. */
        private boolean knotNext(Baskets baskets) {
            int wanted = at(toldColours, 0);
            int colour = baskets.take(wanted);
            if (colour == NONE) {
                return false;
            }
            put(knotted, made, colour);
            made++;
            if (colour != wanted) {
                inAnotherColour++;
            }
            shortenFirstRun();
            return true;
        }

        private void shortenFirstRun() {
            int knots = at(toldKnots, 0) - 1;
            put(toldKnots, 0, knots);
            if (knots > 0) {
                return;
            }
            for (int i = 1; i < told; i++) {
                put(toldColours, i - 1, at(toldColours, i));
                put(toldKnots, i - 1, at(toldKnots, i));
            }
            told--;
        }

        void undo(int knots, Baskets baskets) {
            for (int i = 0; i < knots; i++) {
                made--;
                baskets.fill(at(knotted, made), 1);
            }
        }

        int number(int what) {
            switch (what) {
                case 0: return speed;
                case 1: return told;
                case 2: return toldInAll();
                case 3: return made;
                case 4: return nextX();
                case 5: return isHalfDone() ? NONE : made / HALF_WIDE;
                default: return inAnotherColour;
            }
        }

        private int nextX() {
            if (isHalfDone()) {
                return NONE;
            }
            int fromRim = made % HALF_WIDE;
            return side == 0 ? fromRim : WIDE - 1 - fromRim;
        }

        int offPlan() {
            int off = 0;
            for (int i = 0; i < made; i++) {
                if (at(knotted, i) != at(planned, i)) {
                    off++;
                }
            }
            return off;
        }

        /** The place of the first knot that differs from the plan, or behind all knots. */
        int firstOffPlan() {
            int place = 0;
            while (place < made && at(knotted, place) == at(planned, place)) {
                place++;
            }
            return place;
        }

        /** How many cells from the next one on are alike in the plan. */
        int alikeAhead() {
            int end = made;
            while (end < HALF_CELLS && at(planned, end) == at(planned, made)) {
                end++;
            }
            return end - made;
        }

        int fewestRuns() {
            int fewest = isHalfDone() ? 0 : 1;
            for (int i = made + 1; i < HALF_CELLS; i++) {
                if (at(planned, i) != at(planned, i - 1)) {
                    fewest++;
                }
            }
            return fewest;
        }

        long mixInto(long before) {
            long d = before;
            for (int what = 0; what < WEAVER_NUMBERS; what++) {
                d = mix(d, number(what));
            }
            for (int i = 0; i < told; i++) {
                d = mix(d, at(toldColours, i));
                d = mix(d, at(toldKnots, i));
            }
            return d;
        }
    }

    /** For how many knots there is wool left, by colour. */
    private static final class Baskets {
        private final int[] left = new int[COLOURS];

        Baskets() {
            for (int colour = 0; colour < left.length; colour++) {
                left[colour] = FIRST_WOOL;
            }
        }

        int fill(int colour, int knots) {
            int then = Math.min(MOST_WOOL, at(left, colour) + knots);
            put(left, colour, then);
            return then;
        }

        /** Takes wool for a knot and answers its colour; NONE if all baskets are empty. */
        int take(int wanted) {
            for (int further = 0; further < COLOURS; further++) {
                int colour = (wanted + further) % COLOURS;
                int there = at(left, colour);
                if (there > 0) {
                    put(left, colour, there - 1);
                    return colour;
                }
            }
            return NONE;
        }

        int inAll() {
            int wool = 0;
            for (int colour = 0; colour < COLOURS; colour++) {
                wool += at(left, colour);
            }
            return wool;
        }

        int empty() {
            int baskets = 0;
            for (int colour = 0; colour < COLOURS; colour++) {
                if (at(left, colour) == 0) {
                    baskets++;
                }
            }
            return baskets;
        }
    }
}
