/** The edges of the promises 1 to 3, sentence by sentence: a new object, plan and bring. */
public final class PlanAndWoolEdgesTest {
    private static final Class<IndexOutOfBoundsException> INDEX = IndexOutOfBoundsException.class;
    private static final Class<IllegalArgumentException> ARGUMENT = IllegalArgumentException.class;

    public static void main(String[] args) {
        newObjects();
        theLastCall();
        cornersOfTheRug();
        planEachCell();
        planEachWidth();
        planEachHeight();
        planFarthestParts();
        planColours();
        planHowManyHadAnother();
        planUnderKnots();
        planRefused();
        planWhichExceptionFirst();
        bringAtMost();
        bringIntoAnEmptyBasket();
        bringAmounts();
        bringColours();
        bringRefused();
        Check.end();
    }

    /** "Creates a bare rug, in the hour 0": each one its own, whatever was done with others. */
    private static void newObjects() {
        KnotRugs bare = new KnotRugs();
        for (Story story : Story.values()) {
            story.lived();
            Check.sameText("a new object behind " + story, View.difference(View.of(Story.BARE.lived()),
                    View.of(new KnotRugs())), "");
        }
        Check.same("new: count(0)", bare.count(0), 0);
        Check.same("new: count(1)", bare.count(1), 0);
        Check.same("new: count(5)", bare.count(5), 240);
    }

    /** "An object is used for at most 512 calls": the 512th is answered as the others. */
    private static void theLastCall() {
        KnotRugs r = new KnotRugs();
        for (int call = 1; call <= 511; call++) {
            Check.same("pass(60), call " + call, r.pass(60), 0);
        }
        Check.same("count(0), call 512", r.count(0), 511 * 60);
        KnotRugs s = new KnotRugs();
        for (int call = 1; call <= 510; call += 3) {
            s.setSpeed(0, 6);
            s.tell(0, 1, 1);
            s.hush(0);
        }
        Check.same("weaver(0, 1)", s.weaver(0, 1), 0);
        KnotRugs t = new KnotRugs();
        for (int call = 1; call <= 510; call += 3) {
            t.tell(1, 2, 1);
            t.pass(1);
            t.unpick(1, 1);
        }
        Check.same("count(7), call 511", t.count(7), 170);
        Check.same("wool(2), call 512", t.wool(2), 30);
    }

    /** "x is 0 to 11 from the left, y 0 to 9 from below": each corner is a cell of its own. */
    private static void cornersOfTheRug() {
        KnotRugs r = new KnotRugs();
        Check.same("plan(0, 0, 1, 1, 1)", r.plan(0, 0, 1, 1, 1), 1);
        Check.same("plan(11, 0, 1, 1, 2)", r.plan(11, 0, 1, 1, 2), 1);
        Check.same("plan(0, 9, 1, 1, 3)", r.plan(0, 9, 1, 1, 3), 1);
        Check.same("plan(11, 9, 1, 1, 4)", r.plan(11, 9, 1, 1, 4), 1);
        int[][] due = {{0, 0, 1}, {11, 0, 2}, {0, 9, 3}, {11, 9, 4}, {1, 0, 0}, {0, 1, 0}, {10, 9, 0}, {11, 8, 0}};
        for (int[] cell : due) {
            Check.same("cell(" + cell[0] + ", " + cell[1] + ", 1)", r.cell(cell[0], cell[1], 1), cell[2]);
        }
        r.tell(0, 5, 1);
        r.tell(1, 6, 1);
        r.pass(1);
        Check.same("cell(0, 0, 0), the first of weaver 0", r.cell(0, 0, 0), 5);
        Check.same("cell(11, 0, 0), the first of weaver 1", r.cell(11, 0, 0), 6);
    }

    private static void planEachCell() {
        for (int cell = 0; cell < 120; cell++) {
            KnotRugs r = new KnotRugs();
            int x = cell % 12;
            int y = cell / 12;
            String call = "plan(" + x + ", " + y + ", 1, 1, 7)";
            Check.same(call, r.plan(x, y, 1, 1, 7), 1);
            for (int other = 0; other < 120; other++) {
                Check.same(call + ": cell " + other, r.cell(other % 12, other / 12, 1), other == cell ? 7 : 0);
            }
        }
    }

    /** "wide is not 1 to 12 - x" */
    private static void planEachWidth() {
        for (int x = 0; x < 12; x++) {
            int left = x;
            Check.same("plan(" + x + ", 9, 12 - x, 1, 2)", new KnotRugs().plan(x, 9, 12 - x, 1, 2), 12 - x);
            Check.same("plan(" + x + ", 0, 1, 1, 2)", new KnotRugs().plan(x, 0, 1, 1, 2), 1);
            for (int wide : new int[] {0, -1, 13 - x, 12, 100, Integer.MIN_VALUE, Integer.MAX_VALUE}) {
                if (wide < 1 || wide > 12 - x) {
                    Check.refusedAlways(ARGUMENT, "plan(" + x + ", 9, " + wide + ", 1, 2)",
                            r -> r.plan(left, 9, wide, 1, 2));
                }
            }
        }
    }

    /** "high is not 1 to 10 - y" */
    private static void planEachHeight() {
        for (int y = 0; y < 10; y++) {
            int below = y;
            Check.same("plan(11, " + y + ", 1, 10 - y, 2)", new KnotRugs().plan(11, y, 1, 10 - y, 2), 10 - y);
            Check.same("plan(0, " + y + ", 1, 1, 2)", new KnotRugs().plan(0, y, 1, 1, 2), 1);
            for (int high : new int[] {0, -1, 11 - y, 10, 12, Integer.MIN_VALUE, Integer.MAX_VALUE}) {
                if (high < 1 || high > 10 - y) {
                    Check.refusedAlways(ARGUMENT, "plan(11, " + y + ", 1, " + high + ", 2)",
                            r -> r.plan(11, below, 1, high, 2));
                }
            }
        }
    }

    private static void planFarthestParts() {
        for (int cell = 0; cell < 120; cell++) {
            int x = cell % 12;
            int y = cell / 12;
            KnotRugs r = new KnotRugs();
            Check.same("plan from " + x + ", " + y + " to the end", r.plan(x, y, 12 - x, 10 - y, 1),
                    (12 - x) * (10 - y));
            Check.same("plan(0, 0, 12, 10, 0)", r.plan(0, 0, 12, 10, 0), (12 - x) * (10 - y));
        }
    }

    private static void planColours() {
        for (int colour = 0; colour < 8; colour++) {
            KnotRugs r = new KnotRugs();
            Check.same("plan(0, 0, 12, 10, " + colour + ")", r.plan(0, 0, 12, 10, colour), colour == 0 ? 0 : 120);
            Check.same("cell(11, 9, 1)", r.cell(11, 9, 1), colour);
            Check.same("advise(0)", r.advise(0), 100 * colour + 60);
        }
    }

    /** "Returns how many cells had another one": none, some, one and all. */
    private static void planHowManyHadAnother() {
        KnotRugs r = new KnotRugs();
        Check.same("plan(0, 0, 12, 10, 0), as at first", r.plan(0, 0, 12, 10, 0), 0);
        Check.same("plan(0, 0, 11, 10, 7)", r.plan(0, 0, 11, 10, 7), 110);
        Check.same("plan(11, 0, 1, 9, 7)", r.plan(11, 0, 1, 9, 7), 9);
        Check.same("plan(0, 0, 12, 10, 7), one is left", r.plan(0, 0, 12, 10, 7), 1);
        Check.same("plan(0, 0, 12, 10, 7), none is left", r.plan(0, 0, 12, 10, 7), 0);
        Check.same("plan(0, 0, 12, 10, 6)", r.plan(0, 0, 12, 10, 6), 120);
        Check.same("plan(5, 0, 2, 10, 0), over the seam", r.plan(5, 0, 2, 10, 0), 20);
        Check.same("plan(4, 3, 4, 1, 6)", r.plan(4, 3, 4, 1, 6), 2);
    }

    /** A plan is a plan: the knots stay, and are off it or not. */
    private static void planUnderKnots() {
        KnotRugs r = Story.DONE.lived();
        int colour = r.cell(7, 4, 0);
        r.plan(0, 0, 12, 10, colour);
        Check.same("cell(7, 4, 0) behind plan", r.cell(7, 4, 0), colour);
        Check.same("cell(7, 4, 1) behind plan", r.cell(7, 4, 1), colour);
        Check.same("count(1) behind plan", r.count(1), 120);
        int off = r.count(2);
        Check.same("plan(7, 4, 1, 1, ..)", r.plan(7, 4, 1, 1, (colour + 1) % 8), 1);
        Check.same("count(2) behind plan", r.count(2), off + 1);
        Check.same("count(0) behind plan", r.count(0), 10);
        Check.same("count(5) behind plan", r.count(5), 120);
    }

    private static void planRefused() {
        Check.outsideIsRefused(INDEX, "plan(?, 0, 1, 1, 1)", 0, 11, (r, n) -> r.plan(n, 0, 1, 1, 1));
        Check.outsideIsRefused(INDEX, "plan(0, ?, 1, 1, 1)", 0, 9, (r, n) -> r.plan(0, n, 1, 1, 1));
        Check.outsideIsRefused(ARGUMENT, "plan(0, 0, ?, 1, 7)", 1, 12, (r, n) -> r.plan(0, 0, n, 1, 7));
        Check.outsideIsRefused(ARGUMENT, "plan(0, 0, 1, ?, 7)", 1, 10, (r, n) -> r.plan(0, 0, 1, n, 7));
        Check.outsideIsRefused(ARGUMENT, "plan(0, 0, 12, 10, ?)", 0, 7, (r, n) -> r.plan(0, 0, 12, 10, n));
        Check.outsideIsRefused(ARGUMENT, "plan(11, 9, 1, 1, ?)", 0, 7, (r, n) -> r.plan(11, 9, 1, 1, n));
    }

    /** The cell is looked at before the width, the height and the colour. */
    private static void planWhichExceptionFirst() {
        int[][] cells = {{-1, 0}, {12, 0}, {0, -1}, {0, 10}, {12, 10}, {-1, -1}};
        int[][] parts = {{0, 1, 1}, {13, 1, 1}, {1, 0, 1}, {1, 11, 1}, {1, 1, -1}, {1, 1, 8}, {0, 0, 8},
            {Integer.MAX_VALUE, Integer.MAX_VALUE, Integer.MAX_VALUE}};
        for (int[] c : cells) {
            for (int[] p : parts) {
                String call = "plan(" + c[0] + ", " + c[1] + ", " + p[0] + ", " + p[1] + ", " + p[2] + ")";
                Check.refusedAlways(INDEX, call, r -> r.plan(c[0], c[1], p[0], p[1], p[2]));
            }
        }
    }

    /** "at most 200": 199, 200 and what would be 201. */
    private static void bringAtMost() {
        int[][] due = {{1, 31}, {168, 198}, {169, 199}, {170, 200}, {171, 200}, {199, 200}, {200, 200}};
        for (int[] one : due) {
            KnotRugs r = new KnotRugs();
            Check.same("bring(3, " + one[0] + ")", r.bring(3, one[0]), one[1]);
            Check.same("wool(3)", r.wool(3), one[1]);
            Check.same("bring(3, 1)", r.bring(3, 1), Math.min(200, one[1] + 1));
            Check.same("bring(3, 200)", r.bring(3, 200), 200);
            Check.same("wool(3)", r.wool(3), 200);
            Check.same("wool(2)", r.wool(2), 30);
            Check.same("wool(4)", r.wool(4), 30);
        }
    }

    private static void bringIntoAnEmptyBasket() {
        int[][] due = {{1, 1}, {2, 2}, {199, 199}, {200, 200}};
        for (int[] one : due) {
            KnotRugs r = new KnotRugs();
            r.tell(0, 5, 30);
            r.pass(30);
            Check.same("wool(5), all is used", r.wool(5), 0);
            Check.same("bring(5, " + one[0] + ")", r.bring(5, one[0]), one[1]);
            Check.same("count(6)", r.count(6), 0);
        }
        KnotRugs r = new KnotRugs();
        r.tell(0, 5, 29);
        r.pass(29);
        Check.same("bring(5, 198) to one", r.bring(5, 198), 199);
        KnotRugs s = new KnotRugs();
        s.tell(0, 5, 29);
        s.pass(29);
        Check.same("bring(5, 200) to one", s.bring(5, 200), 200);
    }

    /** Each number from 1 to 200 is taken. */
    private static void bringAmounts() {
        for (int knots = 1; knots <= 200; knots++) {
            Check.same("bring(0, " + knots + ")", new KnotRugs().bring(0, knots), Math.min(200, 30 + knots));
        }
    }

    private static void bringColours() {
        for (int colour = 0; colour < 8; colour++) {
            KnotRugs r = new KnotRugs();
            Check.same("bring(" + colour + ", 10)", r.bring(colour, 10), 40);
            for (int other = 0; other < 8; other++) {
                Check.same("wool(" + other + ")", r.wool(other), other == colour ? 40 : 30);
            }
            Check.same("count(5)", r.count(5), 250);
        }
    }

    private static void bringRefused() {
        Check.outsideIsRefused(ARGUMENT, "bring(?, 1)", 0, 7, (r, n) -> r.bring(n, 1));
        Check.outsideIsRefused(ARGUMENT, "bring(?, 200)", 0, 7, (r, n) -> r.bring(n, 200));
        Check.outsideIsRefused(ARGUMENT, "bring(0, ?)", 1, 200, (r, n) -> r.bring(0, n));
        Check.outsideIsRefused(ARGUMENT, "bring(7, ?)", 1, 200, (r, n) -> r.bring(7, n));
        Check.refusedAlways(ARGUMENT, "bring(-1, 0)", r -> r.bring(-1, 0));
        Check.refusedAlways(ARGUMENT, "bring(8, 201)", r -> r.bring(8, 201));
    }
}
