/** Promises 17 to 21: pass, done, foresee, share and digest. */
public final class HoursTest {
    public static void main(String[] args) {
        passHours();
        otherColours();
        lastWool();
        mostEmpty();
        doneHours();
        doneAtTheEnd();
        foreseeHours();
        foreseeBaskets();
        foreseeTorn();
        wrong();
        shares();
        digests();
        Check.end();
    }

    private static void passHours() {
        KnotRugs r = new KnotRugs();
        Check.same("pass(60) without runs", r.pass(60), 0);
        Check.same("count(0)", r.count(0), 60);
        r.setSpeed(0, 3);
        r.tell(0, 1, 2);
        r.tell(0, 2, 3);
        r.tell(1, 3, 2);
        Check.same("pass(1)", r.pass(1), 4);
        Check.same("cell(1, 0, 0)", r.cell(1, 0, 0), 1);
        Check.same("cell(2, 0, 0), the next run in the same hour", r.cell(2, 0, 0), 2);
        Check.same("pass(1)", r.pass(1), 3);
        Check.same("pass(5), the runs are over", r.pass(5), 0);
        Check.same("count(0)", r.count(0), 67);
        r.hush(0);
        r.setSpeed(0, 6);
        r.tell(0, 5, 30);
        r.tell(0, 6, 30);
        Check.same("pass(60) to the end of the half", r.pass(60), 55);
        Check.same("weaver(0, 2), left behind the end", r.weaver(0, 2), 5);
        Check.same("weaver(0, 1), left behind the end", r.weaver(0, 1), 1);
        Check.same("pass(1), done", r.pass(1), 0);
    }

    private static void otherColours() {
        KnotRugs r = new KnotRugs();
        r.setSpeed(0, 6);
        r.tell(0, 7, 36);
        r.pass(6);
        Check.same("cell(5, 4, 0)", r.cell(5, 4, 0), 7);
        Check.same("cell(0, 5, 0), behind 7 comes 0", r.cell(0, 5, 0), 0);
        Check.same("wool(7)", r.wool(7), 0);
        Check.same("wool(0)", r.wool(0), 24);
        Check.same("weaver(0, 6)", r.weaver(0, 6), 6);
        r.bring(7, 1);
        r.tell(0, 6, 24);
        r.tell(1, 6, 7);
        r.tell(1, 7, 1);
        r.setSpeed(1, 6);
        Check.same("pass(2)", r.pass(2), 20);
        Check.same("wool(6)", r.wool(6), 11);
        Check.same("wool(7)", r.wool(7), 0);
        r.tell(1, 6, 12);
        r.tell(1, 6, 1);
        r.hush(0);
        Check.same("pass(3)", r.pass(3), 13);
        Check.same("wool(6)", r.wool(6), 0);
        Check.same("wool(0), 6 and 7 are empty", r.wool(0), 22);
        Check.same("weaver(1, 6)", r.weaver(1, 6), 2);
    }

    /** Weaver 0 takes first in an hour. */
    private static void lastWool() {
        KnotRugs r = new KnotRugs();
        r.setSpeed(0, 6);
        r.setSpeed(1, 6);
        r.tell(0, 2, 28);
        r.pass(5);
        r.tell(0, 2, 6);
        r.tell(1, 2, 6);
        r.pass(1);
        Check.same("weaver(0, 6)", r.weaver(0, 6), 4);
        Check.same("weaver(1, 6)", r.weaver(1, 6), 6);
        Check.same("wool(3)", r.wool(3), 20);
        Check.same("cell(11, 0, 0)", r.cell(11, 0, 0), 3);
    }

    /** A half has 60 cells, so at most four baskets run dry, and the weavers never find all empty. */
    private static void mostEmpty() {
        KnotRugs r = new KnotRugs();
        r.setSpeed(0, 6);
        r.setSpeed(1, 6);
        r.tell(0, 6, 60);
        r.tell(1, 6, 60);
        Check.same("pass(10)", r.pass(10), 120);
        Check.same("count(6)", r.count(6), 4);
        Check.same("count(5)", r.count(5), 120);
        Check.same("wool(1)", r.wool(1), 0);
        Check.same("wool(2)", r.wool(2), 30);
        Check.same("weaver(0, 6)", r.weaver(0, 6), 42);
        Check.same("weaver(1, 6)", r.weaver(1, 6), 48);
    }

    private static void doneHours() {
        KnotRugs r = new KnotRugs();
        r.tell(0, 1, 7);
        r.tell(0, 2, 1);
        long before = r.digest();
        Check.same("done(0)", r.done(0), 8);
        Check.same("done(1) without runs", r.done(1), 0);
        Check.same("digest() behind done", r.digest(), before);
        r.setSpeed(0, 4);
        Check.same("done(0), speed 4", r.done(0), 2);
        r.setSpeed(0, 3);
        Check.same("done(0), speed 3", r.done(0), 3);
        r.pass(2);
        Check.same("done(0), two later", r.done(0), 1);
        r.pass(1);
        Check.same("done(0), three later", r.done(0), 0);
        r.tell(1, 1, 5);
        Check.same("done(1)", r.done(1), 5);
        r.hush(1);
        Check.same("done(1), hushed", r.done(1), 0);
    }

    private static void doneAtTheEnd() {
        KnotRugs r = new KnotRugs();
        for (int i = 0; i < 20; i++) {
            r.tell(1, i % 8, 60);
        }
        Check.same("done(1), the slowest", r.done(1), 60);
        r.pass(59);
        Check.same("done(1), a cell is left", r.done(1), 1);
        r.setSpeed(1, 6);
        Check.same("done(1), a cell is left, speed 6", r.done(1), 1);
        r.pass(1);
        Check.same("weaver(1, 2), runs are left", r.weaver(1, 2), 1140);
        Check.same("done(1), no cell is left", r.done(1), 0);
        r.unpick(1, 7);
        Check.same("done(1), unpicked", r.done(1), 2);
    }

    private static void foreseeHours() {
        KnotRugs r = new KnotRugs();
        r.plan(0, 0, 12, 10, 1);
        r.plan(9, 0, 1, 1, 4);
        r.tell(0, 1, 3);
        r.tell(0, 2, 1);
        r.tell(1, 1, 9);
        long before = r.digest();
        int[] knots = {2, 4, 6, 8, 9, 10, 11, 12, 13, 13};
        int[] off = {0, 0, 1, 2, 2, 2, 2, 2, 2, 2};
        for (int hours = 1; hours <= 10; hours++) {
            Check.same("foresee(" + hours + ", 0)", r.foresee(hours, 0), knots[hours - 1]);
            Check.same("foresee(" + hours + ", 1)", r.foresee(hours, 1), off[hours - 1]);
            Check.same("foresee(" + hours + ", 2)", r.foresee(hours, 2), 0);
        }
        Check.same("foresee(60, 0)", r.foresee(60, 0), 13);
        Check.same("digest() behind foresee", r.digest(), before);
        r.pass(2);
        Check.same("foresee(1, 0)", r.foresee(1, 0), 6);
        r.unpick(1, 2);
        r.plan(0, 0, 1, 1, 0);
        Check.same("foresee(1, 0), unpicked", r.foresee(1, 0), 4);
        Check.same("foresee(1, 1), another plan", r.foresee(1, 1), 1);
    }

    private static void foreseeBaskets() {
        KnotRugs r = new KnotRugs();
        r.plan(0, 0, 12, 10, 1);
        r.setSpeed(0, 6);
        r.setSpeed(1, 6);
        r.tell(0, 1, 60);
        r.tell(1, 1, 60);
        Check.same("foresee(2, 1)", r.foresee(2, 1), 0);
        Check.same("foresee(3, 1)", r.foresee(3, 1), 6);
        Check.same("foresee(60, 1)", r.foresee(60, 1), 90);
        Check.same("wool(1)", r.wool(1), 30);
        r.bring(1, 20);
        Check.same("foresee(60, 1), more wool", r.foresee(60, 1), 70);
        Check.same("weaver(0, 6)", r.weaver(0, 6), 0);
        Check.same("pass(10)", r.pass(10), 120);
        Check.same("count(2)", r.count(2), 70);
    }

    private static void foreseeTorn() {
        KnotRugs first = new KnotRugs();
        first.plan(0, 0, 12, 1, 2);
        first.tell(0, 2, 3);
        first.pass(2);
        Check.same("foresee(1, 1), the first look ahead", first.foresee(1, 1), 0);
        KnotRugs r = new KnotRugs();
        r.tell(0, 1, 60);
        r.tell(1, 1, 6);
        r.tell(1, 2, 12);
        int[] torn = {0, 0, 1, 2, 2};
        int[] hours = {5, 11, 12, 18, 60};
        for (int i = 0; i < hours.length; i++) {
            Check.same("foresee(" + hours[i] + ", 2)", r.foresee(hours[i], 2), torn[i]);
        }
        Check.same("count(4)", r.count(4), 0);
        r.pass(17);
        Check.same("foresee(1, 2) with the knots so far", r.foresee(1, 2), 2);
        Check.same("foresee(1, 1) with the knots so far", r.foresee(1, 1), 36);
        r.pass(1);
        Check.same("count(4)", r.count(4), 2);
        Check.same("foresee(1, 2)", r.foresee(1, 2), 2);
    }

    private static void wrong() {
        KnotRugs r = new KnotRugs();
        r.tell(0, 1, 3);
        r.pass(1);
        for (int n : Check.outside(1, 60)) {
            Check.noArgument(r, "pass(" + n + ")", () -> r.pass(n));
            Check.noArgument(r, "foresee(" + n + ", 0)", () -> r.foresee(n, 0));
            Check.noArgument(r, "foresee(" + n + ", 3)", () -> r.foresee(n, 3));
        }
        for (int n : Check.outside(0, 2)) {
            Check.noIndex(r, "foresee(1, " + n + ")", () -> r.foresee(1, n));
            Check.noIndex(r, "foresee(60, " + n + ")", () -> r.foresee(60, n));
        }
        for (int n : Check.outside(0, 1)) {
            Check.noIndex(r, "done(" + n + ")", () -> r.done(n));
        }
    }

    private static void shares() {
        KnotRugs r = new KnotRugs();
        r.plan(0, 0, 12, 10, 1);
        Check.sameDouble("share() without knots", r.share(), 0.0);
        r.tell(0, 1, 1);
        r.pass(1);
        Check.sameDouble("share() with one knot", r.share(), 1.0);
        r.unpick(0, 1);
        r.tell(0, 1, 2);
        r.tell(1, 2, 1);
        r.pass(1);
        Check.sameDouble("share(), half", r.share(), 0.5);
        r.pass(1);
        Check.sameDouble("share(), two thirds", r.share(), 2.0 / 3.0);
        r.unpick(1, 1);
        Check.sameDouble("share(), all", r.share(), 1.0);
        r.plan(0, 0, 12, 1, 2);
        Check.sameDouble("share(), none", r.share(), 0.0);
        r.unpick(0, 2);
        Check.sameDouble("share() without knots again", r.share(), 0.0);
    }

    /** Each object is asked for its digest once: with all that it is made of, that is half of its calls. */
    private static void digests() {
        String[] when = {"bare", "told", "knotted", "unpicked"};
        for (int parts = 0; parts < when.length; parts++) {
            KnotRugs r = new KnotRugs();
            if (parts >= 1) {
                r.plan(3, 2, 7, 6, 5);
                r.setSpeed(0, 5);
                r.tell(0, 3, 33);
                r.tell(1, 2, 8);
                r.tell(0, 1, 4);
                r.bring(6, 77);
            }
            if (parts >= 2) {
                r.pass(7);
            }
            if (parts >= 3) {
                r.unpick(0, 3);
                r.hush(1);
            }
            digest(when[parts], r);
        }
    }

    private static void digest(String when, KnotRugs r) {
        long d = 983;
        for (int what = 0; what <= 7; what++) {
            d = d * 31 + r.count(what);
        }
        for (int cell = 0; cell < 120; cell++) {
            d = d * 31 + r.cell(cell % 12, cell / 12, 0);
            d = d * 31 + r.cell(cell % 12, cell / 12, 1);
        }
        for (int w = 0; w < 2; w++) {
            for (int what = 0; what <= 6; what++) {
                d = d * 31 + r.weaver(w, what);
            }
            for (int i = 0; i < r.weaver(w, 1); i++) {
                d = d * 31 + r.run(w, i, 0);
                d = d * 31 + r.run(w, i, 1);
            }
        }
        for (int c = 0; c < 8; c++) {
            d = d * 31 + r.wool(c);
        }
        Check.same("digest(), " + when, r.digest(), d);
    }
}
