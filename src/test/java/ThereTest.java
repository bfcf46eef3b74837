/** Promises 8 to 13: cell, sees, weaver, run, count and wool. */
public final class ThereTest {
    public static void main(String[] args) {
        order();
        seam();
        weaverNumbers();
        runsLeft();
        counts();
        torn();
        tornAtTheRim();
        wrong();
        Check.end();
    }

    /** Weaver 0 goes from the left rim, weaver 1 from the right one, both to the seam. */
    private static void order() {
        KnotRugs r = new KnotRugs();
        for (int y = 0; y < 10; y++) {
            for (int i = 0; i < 6; i++) {
                Check.same("weaver(0, 4)", r.weaver(0, 4), i);
                Check.same("weaver(1, 5)", r.weaver(1, 5), y);
                int left = (i + y) % 8;
                int right = (i + 2 * y + 3) % 8;
                r.tell(0, left, 1);
                r.tell(1, right, 1);
                Check.same("pass(1)", r.pass(1), 2);
                Check.same("cell of weaver 0", r.cell(i, y, 0), left);
                Check.same("cell of weaver 1", r.cell(11 - i, y, 0), right);
            }
            Check.same("weaver(0, 3)", r.weaver(0, 3), 6 * y + 6);
            Check.same("weaver(1, 3)", r.weaver(1, 3), 6 * y + 6);
        }
        for (int what = 4; what <= 5; what++) {
            Check.same("weaver(0, " + what + "), done", r.weaver(0, what), -1);
            Check.same("weaver(1, " + what + "), done", r.weaver(1, what), -1);
        }
        Check.same("count(1)", r.count(1), 120);
        Check.same("count(3)", r.count(3), 10);
    }

    private static void seam() {
        KnotRugs r = new KnotRugs();
        r.tell(0, 1, 11);
        r.tell(1, 2, 6);
        r.pass(5);
        Check.same("sees(0, 4, 0)", r.sees(0, 4, 0), 1);
        Check.same("sees(0, 5, 0)", r.sees(0, 5, 0), -1);
        Check.same("sees(0, 6, 0), own row not done", r.sees(0, 6, 0), -2);
        Check.same("sees(1, 5, 0), own row not done", r.sees(1, 5, 0), -2);
        Check.same("sees(1, 7, 0)", r.sees(1, 7, 0), 2);
        r.pass(1);
        Check.same("sees(0, 6, 0)", r.sees(0, 6, 0), 2);
        Check.same("sees(1, 5, 0)", r.sees(1, 5, 0), 1);
        Check.same("sees(0, 7, 0)", r.sees(0, 7, 0), -2);
        Check.same("sees(0, 11, 0)", r.sees(0, 11, 0), -2);
        Check.same("sees(1, 4, 0)", r.sees(1, 4, 0), -2);
        Check.same("sees(1, 0, 0)", r.sees(1, 0, 0), -2);
        Check.same("sees(0, 6, 1)", r.sees(0, 6, 1), -2);
        Check.same("sees(1, 5, 1)", r.sees(1, 5, 1), -2);
        r.pass(5);
        Check.same("sees(0, 6, 1), 11 knots", r.sees(0, 6, 1), -2);
        r.tell(0, 1, 1);
        r.pass(1);
        Check.same("sees(0, 6, 1), no knot there", r.sees(0, 6, 1), -1);
        Check.same("sees(1, 5, 1), own row not done", r.sees(1, 5, 1), -2);
        Check.same("sees(0, 0, 9)", r.sees(0, 0, 9), -1);
        Check.same("sees(1, 11, 9)", r.sees(1, 11, 9), -1);
        r.unpick(0, 1);
        Check.same("sees(0, 6, 1), unpicked", r.sees(0, 6, 1), -2);
    }

    private static void weaverNumbers() {
        KnotRugs r = new KnotRugs();
        r.setSpeed(1, 4);
        r.tell(1, 3, 35);
        r.tell(1, 1, 2);
        r.tell(1, 2, 3);
        r.pass(8);
        int[] due = {4, 3, 8, 32, 9, 5, 2};
        for (int what = 0; what < 7; what++) {
            Check.same("weaver(1, " + what + ")", r.weaver(1, what), due[what]);
        }
        r.unpick(1, 10);
        Check.same("weaver(1, 6) behind unpick", r.weaver(1, 6), 2);
        Check.same("weaver(0, 6)", r.weaver(0, 6), 0);
    }

    private static void runsLeft() {
        KnotRugs r = new KnotRugs();
        r.tell(0, 3, 2);
        r.tell(0, 4, 2);
        r.tell(0, 5, 1);
        r.pass(1);
        Check.same("run(0, 0, 1)", r.run(0, 0, 1), 1);
        Check.same("run(0, 2, 0)", r.run(0, 2, 0), 5);
        r.pass(1);
        Check.same("run(0, 0, 0)", r.run(0, 0, 0), 4);
        Check.same("run(0, 0, 1)", r.run(0, 0, 1), 2);
        Check.same("run(0, 1, 0)", r.run(0, 1, 0), 5);
        Check.same("run(0, 1, 1)", r.run(0, 1, 1), 1);
        Check.noIndex(r, "run(0, 2, 0)", () -> r.run(0, 2, 0));
        Check.noIndex(r, "run(1, 0, 0)", () -> r.run(1, 0, 0));
    }

    private static void counts() {
        KnotRugs r = new KnotRugs();
        r.plan(0, 0, 12, 10, 1);
        r.plan(0, 0, 2, 1, 2);
        r.tell(0, 1, 13);
        r.tell(1, 1, 7);
        r.pass(14);
        Check.same("count(0)", r.count(0), 14);
        Check.same("count(1)", r.count(1), 20);
        Check.same("count(2)", r.count(2), 2);
        Check.same("count(3)", r.count(3), 1);
        Check.same("count(4)", r.count(4), 0);
        Check.same("count(5)", r.count(5), 220);
        Check.same("count(6)", r.count(6), 0);
        Check.same("count(7)", r.count(7), 0);
        r.tell(1, 1, 5);
        r.tell(0, 1, 6);
        r.pass(5);
        Check.same("count(3)", r.count(3), 2);
        Check.same("count(6)", r.count(6), 1);
        Check.same("wool(1)", r.wool(1), 0);
        Check.same("wool(2)", r.wool(2), 30);
    }

    private static void torn() {
        KnotRugs r = new KnotRugs();
        // Row 0: alike in both; row 1: alike, the plan not; row 2: not alike, the plan is;
        // row 3: not alike in both, though neither knot is as in the plan; row 4: alike in both,
        // though off the plan; row 5: torn, but done in one half only.
        int[] planLeft = {3, 3, 3, 3, 3, 3};
        int[] planRight = {3, 4, 3, 4, 3, 4};
        int[] knotLeft = {3, 5, 3, 5, 6, 5};
        int[] knotRight = {3, 5, 4, 6, 6, 5};
        for (int y = 0; y < 6; y++) {
            r.plan(5, y, 1, 1, planLeft[y]);
            r.plan(6, y, 1, 1, planRight[y]);
        }
        int[] due = {0, 1, 2, 2, 2, 2};
        for (int y = 0; y < 6; y++) {
            r.tell(0, y % 3, 5);
            r.tell(0, knotLeft[y], 1);
            r.tell(1, 7 - y % 2, 5);
            r.tell(1, knotRight[y], 1);
            r.pass(y < 5 ? 6 : 5);
            Check.same("count(4) with the row " + y, r.count(4), due[y]);
        }
        r.pass(1);
        Check.same("count(4), all done", r.count(4), 3);
        r.plan(6, 1, 1, 1, 3);
        Check.same("count(4) by another plan", r.count(4), 2);
        r.unpick(1, 1);
        Check.same("count(4), unpicked at the seam", r.count(4), 1);
        Check.same("count(3), unpicked at the seam", r.count(3), 5);
    }

    private static void tornAtTheRim() {
        KnotRugs r = new KnotRugs();
        r.tell(0, 1, 6);
        r.tell(1, 2, 6);
        r.pass(6);
        Check.same("count(4), the row 0", r.count(4), 1);
        r.plan(5, 0, 1, 1, 7);
        Check.same("count(4), the row 0 by another plan", r.count(4), 0);
    }

    private static void wrong() {
        KnotRugs r = new KnotRugs();
        r.tell(0, 1, 3);
        r.tell(1, 1, 3);
        r.pass(1);
        for (int n : Check.outside(0, 11)) {
            Check.noIndex(r, "cell(" + n + ", 0, 0)", () -> r.cell(n, 0, 0));
            Check.noIndex(r, "sees(0, " + n + ", 0)", () -> r.sees(0, n, 0));
        }
        for (int n : Check.outside(0, 9)) {
            Check.noIndex(r, "cell(0, " + n + ", 0)", () -> r.cell(0, n, 0));
            Check.noIndex(r, "sees(0, 0, " + n + ")", () -> r.sees(0, 0, n));
        }
        for (int n : Check.outside(0, 1)) {
            Check.noIndex(r, "cell(0, 0, " + n + ")", () -> r.cell(0, 0, n));
            Check.noIndex(r, "sees(" + n + ", 0, 0)", () -> r.sees(n, 0, 0));
            Check.noIndex(r, "weaver(" + n + ", 0)", () -> r.weaver(n, 0));
            Check.noIndex(r, "run(" + n + ", 0, 0)", () -> r.run(n, 0, 0));
            Check.noIndex(r, "run(0, 0, " + n + ")", () -> r.run(0, 0, n));
        }
        for (int n : Check.outside(0, 0)) {
            Check.noIndex(r, "run(0, " + n + ", 0)", () -> r.run(0, n, 0));
        }
        for (int n : Check.outside(0, 6)) {
            Check.noIndex(r, "weaver(0, " + n + ")", () -> r.weaver(0, n));
        }
        for (int n : Check.outside(0, 7)) {
            Check.noIndex(r, "count(" + n + ")", () -> r.count(n));
            Check.noArgument(r, "wool(" + n + ")", () -> r.wool(n));
        }
    }
}
