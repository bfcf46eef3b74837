/** The edges of the promises 4 to 7, sentence by sentence: setSpeed, tell, hush and unpick. */
public final class WeaversEdgesTest {
    private static final Class<IndexOutOfBoundsException> INDEX = IndexOutOfBoundsException.class;
    private static final Class<IllegalArgumentException> ARGUMENT = IllegalArgumentException.class;
    private static final Class<IllegalStateException> STATE = IllegalStateException.class;

    public static void main(String[] args) {
        eachSpeed();
        speedRefused();
        tellColoursAndKnots();
        tellBehindAllOthers();
        tellTheTwentieth();
        tellWhenOneOfTwentyIsGone();
        tellADoneHalf();
        tellRefused();
        hushWithoutRuns();
        hushTheMost();
        hushTheRest();
        hushRefused();
        unpickEachNumber();
        unpickNotSoMany();
        unpickTheLatest();
        unpickIntoBaskets();
        unpickAndGoOn();
        unpickRefused();
        Check.end();
    }

    /** "The speed from now on", 1 to 6; "the speed before", 1 at first. */
    private static void eachSpeed() {
        for (int w = 0; w < 2; w++) {
            KnotRugs r = new KnotRugs();
            r.tell(w, 1, 60);
            int before = 1;
            int knots = 0;
            for (int speed = 6; speed >= 1; speed--) {
                Check.same("setSpeed(" + w + ", " + speed + ")", r.setSpeed(w, speed), before);
                Check.same("weaver(" + w + ", 0)", r.weaver(w, 0), speed);
                Check.same("weaver of the other", r.weaver(1 - w, 0), 1);
                Check.same("pass(1) with speed " + speed, r.pass(1), speed);
                before = speed;
                knots += speed;
            }
            Check.same("weaver(" + w + ", 3)", r.weaver(w, 3), knots);
            Check.same("setSpeed(" + w + ", 1) again", r.setSpeed(w, 1), 1);
        }
    }

    private static void speedRefused() {
        Check.outsideIsRefused(INDEX, "setSpeed(?, 1)", 0, 1, (r, n) -> r.setSpeed(n, 1));
        Check.outsideIsRefused(INDEX, "setSpeed(?, 6)", 0, 1, (r, n) -> r.setSpeed(n, 6));
        Check.outsideIsRefused(ARGUMENT, "setSpeed(0, ?)", 1, 6, (r, n) -> r.setSpeed(0, n));
        Check.outsideIsRefused(ARGUMENT, "setSpeed(1, ?)", 1, 6, (r, n) -> r.setSpeed(1, n));
        Check.outsideIsRefused(INDEX, "setSpeed(?, 0)", 0, 1, (r, n) -> r.setSpeed(n, 0));
        Check.outsideIsRefused(INDEX, "setSpeed(?, 7)", 0, 1, (r, n) -> r.setSpeed(n, 7));
    }

    /** Each colour from 0 to 7, and each number of knots from 1 to 60. */
    private static void tellColoursAndKnots() {
        for (int w = 0; w < 2; w++) {
            for (int colour = 0; colour < 8; colour++) {
                KnotRugs r = new KnotRugs();
                Check.same("tell(" + w + ", " + colour + ", 1)", r.tell(w, colour, 1), 1);
                Check.same("run(" + w + ", 0, 0)", r.run(w, 0, 0), colour);
                r.pass(1);
                Check.same("the knot", r.cell(w == 0 ? 0 : 11, 0, 0), colour);
            }
            for (int knots = 1; knots <= 60; knots++) {
                KnotRugs r = new KnotRugs();
                Check.same("tell(" + w + ", 1, " + knots + ")", r.tell(w, 1, knots), 1);
                Check.same("run(" + w + ", 0, 1)", r.run(w, 0, 1), knots);
                Check.same("pass(60)", r.pass(60), knots);
                Check.same("weaver(" + w + ", 1)", r.weaver(w, 1), 0);
            }
        }
    }

    /** "behind all others", also behind one of the same colour, which stays a run of its own. */
    private static void tellBehindAllOthers() {
        KnotRugs r = new KnotRugs();
        for (int i = 0; i < 20; i++) {
            Check.same("tell(1, " + (i / 3) + ", " + (i + 1) + ")", r.tell(1, i / 3, i + 1), i + 1);
            for (int j = 0; j <= i; j++) {
                if (j == 0 || j >= i - 1) {
                    Check.same("run(1, " + j + ", 0)", r.run(1, j, 0), j / 3);
                    Check.same("run(1, " + j + ", 1)", r.run(1, j, 1), j + 1);
                }
            }
        }
        Check.same("weaver(0, 1)", r.weaver(0, 1), 0);
        Check.same("weaver(1, 2)", r.weaver(1, 2), 210);
    }

    /** "if there are 20": the 20th is told, the 21st is not, and the other weaver has 20 too. */
    private static void tellTheTwentieth() {
        for (int w = 0; w < 2; w++) {
            int who = w;
            KnotRugs r = new KnotRugs();
            for (int i = 1; i <= 20; i++) {
                Check.same("tell(" + w + ", 7, 60), " + i, r.tell(w, 7, 60), i);
            }
            Check.noState(r, "tell(" + w + ", 7, 60), 21", () -> r.tell(who, 7, 60));
            Check.noState(r, "tell(" + w + ", 0, 1), 21", () -> r.tell(who, 0, 1));
            for (int i = 1; i <= 20; i++) {
                Check.same("tell the other, " + i, r.tell(1 - w, 0, 1), i);
            }
            Check.noState(r, "tell the other, 21", () -> r.tell(1 - who, 0, 1));
            Check.same("weaver(" + w + ", 2)", r.weaver(w, 2), 1200);
        }
        for (int[] run : new int[][] {{0, 1}, {7, 60}, {3, 30}}) {
            Check.refusedIn(Story.TWENTY, STATE, "tell(0, ..)", r -> r.tell(0, run[0], run[1]));
            Check.refusedIn(Story.TWENTY, STATE, "tell(1, ..)", r -> r.tell(1, run[0], run[1]));
        }
    }

    private static void tellWhenOneOfTwentyIsGone() {
        KnotRugs r = Story.TWENTY.lived();
        Check.same("weaver(0, 1), the first is begun", r.weaver(0, 1), 20);
        r.setSpeed(0, 1);
        r.pass(1);
        Check.same("weaver(0, 1), the first is gone", r.weaver(0, 1), 19);
        Check.same("run(0, 0, 0), the second is the first", r.run(0, 0, 0), 1);
        Check.same("run(0, 18, 0)", r.run(0, 18, 0), 3);
        Check.same("tell(0, 6, 9)", r.tell(0, 6, 9), 20);
        Check.same("run(0, 19, 0)", r.run(0, 19, 0), 6);
        Check.same("run(0, 19, 1)", r.run(0, 19, 1), 9);
        Check.noState(r, "tell(0, 6, 9) again", () -> r.tell(0, 6, 9));
        Check.same("hush(0)", r.hush(0), 66);
        Check.same("tell(0, 6, 9) behind hush", r.tell(0, 6, 9), 1);
        Check.same("run(0, 0, 0)", r.run(0, 0, 0), 6);
    }

    /** The document names no exception for a half that is done: the run is told, and waits. */
    private static void tellADoneHalf() {
        KnotRugs r = Story.DONE.lived();
        Check.same("weaver(0, 1)", r.weaver(0, 1), 1);
        Check.same("tell(0, 3, 2)", r.tell(0, 3, 2), 2);
        Check.same("pass(60)", r.pass(60), 0);
        Check.same("weaver(0, 2)", r.weaver(0, 2), 6);
    }

    private static void tellRefused() {
        Check.outsideIsRefused(INDEX, "tell(?, 0, 1)", 0, 1, (r, n) -> r.tell(n, 0, 1));
        Check.outsideIsRefused(INDEX, "tell(?, -1, 1)", 0, 1, (r, n) -> r.tell(n, -1, 1));
        Check.outsideIsRefused(INDEX, "tell(?, 8, 61)", 0, 1, (r, n) -> r.tell(n, 8, 61));
        for (int w = 0; w < 2; w++) {
            int who = w;
            Check.outsideIsRefused(ARGUMENT, "tell(" + w + ", ?, 1)", 0, 7, (r, n) -> r.tell(who, n, 1));
            Check.outsideIsRefused(ARGUMENT, "tell(" + w + ", ?, 60)", 0, 7, (r, n) -> r.tell(who, n, 60));
            Check.outsideIsRefused(ARGUMENT, "tell(" + w + ", 0, ?)", 1, 60, (r, n) -> r.tell(who, 0, n));
            Check.outsideIsRefused(ARGUMENT, "tell(" + w + ", 7, ?)", 1, 60, (r, n) -> r.tell(who, 7, n));
        }
    }

    /** "Takes all runs of a weaver back": without runs there is nothing to take, and that is no fault. */
    private static void hushWithoutRuns() {
        for (int w = 0; w < 2; w++) {
            KnotRugs r = new KnotRugs();
            r.tell(1 - w, 4, 5);
            Check.same("hush(" + w + ") without runs", r.hush(w), 0);
            Check.same("hush(" + w + ") without runs again", r.hush(w), 0);
            Check.same("the other's runs", r.weaver(1 - w, 2), 5);
            Check.same("hush the other", r.hush(1 - w), 5);
            Check.same("hush the other again", r.hush(1 - w), 0);
        }
        KnotRugs r = new KnotRugs();
        long before = r.digest();
        r.hush(1);
        Check.same("digest() behind hush without runs", r.digest(), before);
    }

    private static void hushTheMost() {
        KnotRugs r = new KnotRugs();
        for (int i = 0; i < 20; i++) {
            r.tell(0, 7, 60);
            r.tell(1, 0, 1);
        }
        Check.same("hush(0)", r.hush(0), 1200);
        Check.same("weaver(0, 1)", r.weaver(0, 1), 0);
        Check.same("weaver(0, 2)", r.weaver(0, 2), 0);
        Check.noIndex(r, "run(0, 0, 0) behind hush", () -> r.run(0, 0, 0));
        Check.same("weaver(1, 1)", r.weaver(1, 1), 20);
        Check.same("hush(1)", r.hush(1), 20);
        Check.same("pass(60)", r.pass(60), 0);
        Check.same("tell(0, 1, 2)", r.tell(0, 1, 2), 1);
        Check.same("weaver(0, 2)", r.weaver(0, 2), 2);
    }

    /** Of a run that is begun, the knots that are left; the knots that are made stay. */
    private static void hushTheRest() {
        KnotRugs r = new KnotRugs();
        r.tell(1, 3, 2);
        r.tell(1, 4, 1);
        r.pass(1);
        Check.same("hush(1), one of two is left", r.hush(1), 2);
        Check.same("weaver(1, 3)", r.weaver(1, 3), 1);
        Check.same("cell(11, 0, 0)", r.cell(11, 0, 0), 3);
        KnotRugs s = new KnotRugs();
        s.tell(1, 3, 2);
        s.tell(1, 4, 1);
        s.pass(2);
        Check.same("hush(1), the first is gone", s.hush(1), 1);
        Check.same("wool(3)", s.wool(3), 28);
        Check.same("hush(0) of a done half", Story.DONE.lived().hush(0), 4);
        Check.same("hush(1) of a done half", Story.DONE.lived().hush(1), 60);
    }

    private static void hushRefused() {
        Check.outsideIsRefused(INDEX, "hush(?)", 0, 1, (r, n) -> r.hush(n));
    }

    /** Each number from 1 to 60 of a full half: what is left, and which cells. */
    private static void unpickEachNumber() {
        for (int knots = 1; knots <= 60; knots++) {
            for (int w = 0; w < 2; w++) {
                KnotRugs r = Story.DONE.lived();
                Check.same("unpick(" + w + ", " + knots + ")", r.unpick(w, knots), 60 - knots);
                Check.same("weaver(" + w + ", 3)", r.weaver(w, 3), 60 - knots);
                Check.same("the other half", r.weaver(1 - w, 3), 60);
                Check.same("count(7)", r.count(7), knots);
                int x = (60 - knots) % 6;
                int y = (60 - knots) / 6;
                Check.same("weaver(" + w + ", 4)", r.weaver(w, 4), w == 0 ? x : 11 - x);
                Check.same("weaver(" + w + ", 5)", r.weaver(w, 5), y);
                Check.same("the next cell", r.cell(w == 0 ? x : 11 - x, y, 0), -1);
                if (knots < 60) {
                    int last = 59 - knots;
                    int left = last % 6;
                    boolean there = r.cell(w == 0 ? left : 11 - left, last / 6, 0) >= 0;
                    Check.same("the latest knot that is left", there ? 1 : 0, 1);
                }
            }
        }
    }

    /** "if there are not so many": as many as there are, and one more. */
    private static void unpickNotSoMany() {
        for (int made = 0; made <= 60; made++) {
            KnotRugs r = new KnotRugs();
            if (made > 0) {
                r.tell(1, 2, made);
                r.pass(made);
            }
            int more = made + 1;
            if (more <= 60) {
                Check.noState(r, "unpick(1, " + more + ") of " + made, () -> r.unpick(1, more));
                Check.noState(r, "unpick(1, 60) of " + made, () -> r.unpick(1, 60));
            }
            Check.noState(r, "unpick(0, 1) of none", () -> r.unpick(0, 1));
            if (made > 0) {
                Check.same("unpick(1, " + made + ") of " + made, r.unpick(1, made), 0);
            }
            Check.noState(r, "unpick(1, 1) of a bare half", () -> r.unpick(1, 1));
        }
        Check.refusedIn(Story.BARE, STATE, "unpick(0, 1)", r -> r.unpick(0, 1));
        Check.refusedIn(Story.BARE, STATE, "unpick(1, 60)", r -> r.unpick(1, 60));
        Check.refusedIn(Story.MIDDLE, STATE, "unpick(0, 18)", r -> r.unpick(0, 18));
        Check.refusedIn(Story.MIDDLE, STATE, "unpick(1, 15)", r -> r.unpick(1, 15));
        Check.refusedIn(Story.SEAM, STATE, "unpick(0, 13)", r -> r.unpick(0, 13));
        Check.refusedIn(Story.SEAM, STATE, "unpick(1, 12)", r -> r.unpick(1, 12));
        Check.refusedIn(Story.FULL, STATE, "unpick(0, 10)", r -> r.unpick(0, 10));
        Check.refusedIn(Story.FULL, STATE, "unpick(1, 60)", r -> r.unpick(1, 60));
        Check.refusedIn(Story.TWENTY, STATE, "unpick(0, 3)", r -> r.unpick(0, 3));
        Check.refusedIn(Story.TWENTY, STATE, "unpick(1, 2)", r -> r.unpick(1, 2));
    }

    /** "the latest knots", from the rim of a row back to the seam of the row below. */
    private static void unpickTheLatest() {
        KnotRugs r = new KnotRugs();
        r.tell(0, 1, 5);
        r.tell(0, 2, 1);
        r.tell(0, 3, 1);
        r.tell(1, 4, 7);
        r.pass(7);
        Check.same("unpick(0, 1)", r.unpick(0, 1), 6);
        Check.same("cell(0, 1, 0)", r.cell(0, 1, 0), -1);
        Check.same("cell(5, 0, 0)", r.cell(5, 0, 0), 2);
        Check.same("cell(11, 1, 0), of the other", r.cell(11, 1, 0), 4);
        Check.same("wool(3)", r.wool(3), 30);
        Check.same("wool(2)", r.wool(2), 29);
        Check.same("unpick(0, 1)", r.unpick(0, 1), 5);
        Check.same("cell(5, 0, 0)", r.cell(5, 0, 0), -1);
        Check.same("cell(4, 0, 0)", r.cell(4, 0, 0), 1);
        Check.same("unpick(1, 2)", r.unpick(1, 2), 5);
        Check.same("cell(6, 0, 0)", r.cell(6, 0, 0), -1);
        Check.same("cell(7, 0, 0)", r.cell(7, 0, 0), 4);
        Check.same("count(7)", r.count(7), 4);
        Check.same("count(0)", r.count(0), 7);
    }

    /** "their wool comes back into the baskets (at most 200 in each)" */
    private static void unpickIntoBaskets() {
        // What is brought makes 197 to 200 of the 27 that are left beside three knots.
        int[][] due = {{169, 199, 199}, {170, 200, 200}, {171, 200, 201}, {172, 200, 202}, {173, 200, 203}};
        for (int[] one : due) {
            KnotRugs r = new KnotRugs();
            r.tell(0, 4, 3);
            r.tell(1, 5, 3);
            r.pass(3);
            r.bring(4, one[0]);
            String when = " with " + (27 + one[0]) + " there";
            Check.same("unpick(0, 3)" + when, r.unpick(0, 3), 0);
            Check.same("wool(4)" + when, r.wool(4), one[1]);
            Check.same("wool(5)" + when, r.wool(5), 27);
            Check.same("unpick(1, 3)" + when, r.unpick(1, 3), 0);
            Check.same("wool(5)" + when, r.wool(5), 30);
            Check.same("count(7)" + when, r.count(7), 6);
        }
        KnotRugs full = Story.FULL.lived();
        Check.same("unpick(0, 9) into a full basket", full.unpick(0, 9), 0);
        Check.same("wool(0)", full.wool(0), 200);
        Check.same("wool(1)", full.wool(1), 200);
        Check.same("count(5)", full.count(5), 1600);
        Check.same("count(7), though the wool is lost", full.count(7), 9);
        KnotRugs empty = Story.DONE.lived();
        Check.same("wool(0)", empty.wool(0), 0);
        Check.same("unpick(0, 60)", empty.unpick(0, 60), 0);
        Check.same("unpick(1, 60)", empty.unpick(1, 60), 0);
        for (int colour = 0; colour < 8; colour++) {
            Check.same("wool(" + colour + ") of all baskets again", empty.wool(colour), 30);
        }
    }

    /** A half that was done goes on with the runs that are left; the numbers of the past stay. */
    private static void unpickAndGoOn() {
        KnotRugs r = Story.DONE.lived();
        int others = r.weaver(0, 6);
        Check.same("unpick(0, 2)", r.unpick(0, 2), 58);
        Check.same("weaver(0, 6) behind unpick", r.weaver(0, 6), others);
        Check.same("weaver(0, 2) behind unpick", r.weaver(0, 2), 4);
        Check.same("count(0) behind unpick", r.count(0), 10);
        Check.same("wool(1), the last two were of this colour", r.wool(1), 2);
        Check.same("bring(1, 1)", r.bring(1, 1), 3);
        Check.same("pass(1)", r.pass(1), 2);
        Check.same("weaver(0, 2)", r.weaver(0, 2), 2);
        Check.same("weaver(0, 3)", r.weaver(0, 3), 60);
        Check.same("weaver(0, 6)", r.weaver(0, 6), others);
        Check.same("wool(1)", r.wool(1), 1);
    }

    private static void unpickRefused() {
        Check.outsideIsRefused(INDEX, "unpick(?, 1)", 0, 1, (r, n) -> r.unpick(n, 1));
        Check.outsideIsRefused(INDEX, "unpick(?, 60)", 0, 1, (r, n) -> r.unpick(n, 60));
        Check.outsideIsRefused(INDEX, "unpick(?, 0)", 0, 1, (r, n) -> r.unpick(n, 0));
        Check.outsideIsRefused(INDEX, "unpick(?, 61)", 0, 1, (r, n) -> r.unpick(n, 61));
        Check.outsideIsRefused(ARGUMENT, "unpick(0, ?)", 1, 60, (r, n) -> r.unpick(0, n));
        Check.outsideIsRefused(ARGUMENT, "unpick(1, ?)", 1, 60, (r, n) -> r.unpick(1, n));
    }
}
