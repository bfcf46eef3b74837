/** Promises 14 to 16: advise, runs and mends. */
public final class TellingTest {
    public static void main(String[] args) {
        stripes();
        aroundTheSeam();
        doneHalf();
        mending();
        wrong();
        Check.end();
    }

    private static void stripes() {
        KnotRugs r = new KnotRugs();
        r.plan(0, 0, 3, 1, 4);
        r.plan(10, 0, 2, 1, 5);
        Check.same("advise(0)", r.advise(0), 403);
        Check.same("advise(1)", r.advise(1), 502);
        Check.same("runs(0)", r.runs(0), 2);
        r.tell(0, 7, 2);
        Check.same("advise(0), runs told are left out", r.advise(0), 403);
        r.pass(2);
        Check.same("advise(0) from the next cell on", r.advise(0), 401);
        Check.same("runs(0) from the next cell on", r.runs(0), 2);
        r.tell(0, 7, 1);
        r.pass(1);
        Check.same("advise(0) behind the stripe", r.advise(0), 57);
        Check.same("runs(0) behind the stripe", r.runs(0), 1);
        r.plan(0, 0, 12, 10, 6);
        Check.same("advise(1), all in one", r.advise(1), 660);
        Check.same("runs(1), all in one", r.runs(1), 1);
    }

    /** A run goes on from the seam to the rim of the next row. */
    private static void aroundTheSeam() {
        KnotRugs r = new KnotRugs();
        r.plan(4, 0, 4, 1, 2);
        r.plan(0, 1, 2, 1, 2);
        r.plan(11, 1, 1, 1, 2);
        Check.same("advise(0)", r.advise(0), 4);
        Check.same("runs(0)", r.runs(0), 3);
        Check.same("runs(1)", r.runs(1), 3);
        r.tell(0, 0, 4);
        r.tell(1, 0, 4);
        r.pass(4);
        Check.same("advise(0)", r.advise(0), 204);
        Check.same("advise(1)", r.advise(1), 203);
        for (int x = 0; x < 12; x++) {
            for (int y = 0; y < 10; y++) {
                r.plan(x, y, 1, 1, (x + y) % 2);
            }
        }
        r.unpick(0, 4);
        Check.same("runs(0) of a chequered plan, alike at the ends of the rows", r.runs(0), 51);
        for (int x = 0; x < 12; x++) {
            r.plan(x, 0, 1, 10, x % 2);
        }
        Check.same("runs(0) of a striped plan", r.runs(0), 60);
        r.plan(5, 9, 1, 1, 0);
        Check.same("runs(0) with another end", r.runs(0), 59);
    }

    private static void doneHalf() {
        KnotRugs r = new KnotRugs();
        r.setSpeed(0, 6);
        r.bring(0, 60);
        r.plan(5, 9, 1, 1, 3);
        r.tell(0, 0, 59);
        r.pass(10);
        Check.same("advise(0), one cell", r.advise(0), 301);
        Check.same("runs(0), one cell", r.runs(0), 1);
        Check.same("mends(0)", r.mends(0), 0);
        r.tell(0, 0, 9);
        r.pass(1);
        Check.same("advise(0), done", r.advise(0), -1);
        Check.same("runs(0), done", r.runs(0), 0);
        Check.same("mends(0), done", r.mends(0), 1);
        Check.same("weaver(0, 2)", r.weaver(0, 2), 8);
        Check.same("advise(1)", r.advise(1), 60);
        r.unpick(0, 1);
        Check.same("advise(0), unpicked", r.advise(0), 301);
    }

    private static void mending() {
        KnotRugs r = new KnotRugs();
        Check.same("mends(0) without knots", r.mends(0), 0);
        r.plan(0, 0, 12, 10, 1);
        r.tell(0, 1, 4);
        r.tell(0, 2, 1);
        r.tell(0, 1, 3);
        r.tell(0, 3, 1);
        r.tell(0, 1, 2);
        r.tell(1, 1, 5);
        r.pass(4);
        Check.same("mends(0), nothing differs", r.mends(0), 0);
        r.pass(7);
        Check.same("mends(0)", r.mends(0), 7);
        Check.same("mends(1)", r.mends(1), 0);
        r.unpick(0, 6);
        Check.same("mends(0), one is left", r.mends(0), 1);
        r.unpick(0, 1);
        Check.same("mends(0), mended", r.mends(0), 0);
        r.plan(0, 0, 1, 1, 5);
        Check.same("mends(0), the first", r.mends(0), 4);
        r.plan(11, 0, 1, 1, 5);
        Check.same("mends(1), the first", r.mends(1), 5);
    }

    private static void wrong() {
        KnotRugs r = new KnotRugs();
        for (int n : Check.outside(0, 1)) {
            Check.noIndex(r, "advise(" + n + ")", () -> r.advise(n));
            Check.noIndex(r, "runs(" + n + ")", () -> r.runs(n));
            Check.noIndex(r, "mends(" + n + ")", () -> r.mends(n));
        }
    }
}
