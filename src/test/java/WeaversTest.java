/** Promises 4 to 7: setSpeed, tell, hush and unpick. */
public final class WeaversTest {
    public static void main(String[] args) {
        speeds();
        speedsWrong();
        tellRuns();
        tellWrong();
        hushRuns();
        unpickKnots();
        unpickIntoFullBasket();
        unpickWrong();
        Check.end();
    }

    private static void speeds() {
        KnotRugs r = new KnotRugs();
        Check.same("setSpeed(0, 6)", r.setSpeed(0, 6), 1);
        Check.same("setSpeed(0, 1)", r.setSpeed(0, 1), 6);
        Check.same("setSpeed(1, 3)", r.setSpeed(1, 3), 1);
        Check.same("setSpeed(1, 3) again", r.setSpeed(1, 3), 3);
        Check.same("weaver(0, 0)", r.weaver(0, 0), 1);
        Check.same("weaver(1, 0)", r.weaver(1, 0), 3);
        r.tell(0, 1, 10);
        r.tell(1, 1, 10);
        Check.same("pass(2)", r.pass(2), 8);
        Check.same("weaver(0, 3)", r.weaver(0, 3), 2);
        Check.same("weaver(1, 3)", r.weaver(1, 3), 6);
    }

    private static void speedsWrong() {
        KnotRugs r = new KnotRugs();
        for (int n : Check.outside(0, 1)) {
            Check.noIndex(r, "setSpeed(" + n + ", 2)", () -> r.setSpeed(n, 2));
            Check.noIndex(r, "setSpeed(" + n + ", 7)", () -> r.setSpeed(n, 7));
        }
        for (int n : Check.outside(1, 6)) {
            Check.noArgument(r, "setSpeed(1, " + n + ")", () -> r.setSpeed(1, n));
        }
    }

    private static void tellRuns() {
        KnotRugs r = new KnotRugs();
        Check.same("tell(0, 7, 60)", r.tell(0, 7, 60), 1);
        Check.same("tell(0, 0, 1)", r.tell(0, 0, 1), 2);
        Check.same("tell(1, 4, 5)", r.tell(1, 4, 5), 1);
        Check.same("tell(0, 0, 2), the same colour", r.tell(0, 0, 2), 3);
        int[][] runs = {{7, 60}, {0, 1}, {0, 2}};
        for (int i = 0; i < 3; i++) {
            Check.same("run(0, " + i + ", 0)", r.run(0, i, 0), runs[i][0]);
            Check.same("run(0, " + i + ", 1)", r.run(0, i, 1), runs[i][1]);
        }
        Check.same("run(1, 0, 0)", r.run(1, 0, 0), 4);
        Check.same("run(1, 0, 1)", r.run(1, 0, 1), 5);
        Check.same("weaver(0, 2)", r.weaver(0, 2), 63);
        for (int i = 4; i <= 20; i++) {
            Check.same("tell(0, 1, 1)", r.tell(0, 1, 1), i);
        }
        Check.noState(r, "tell(0, 1, 1) with 20", () -> r.tell(0, 1, 1));
        Check.noArgument(r, "tell(0, 8, 1) with 20", () -> r.tell(0, 8, 1));
        Check.noArgument(r, "tell(0, 1, 61) with 20", () -> r.tell(0, 1, 61));
        Check.same("tell(1, 1, 1)", r.tell(1, 1, 1), 2);
        r.hush(0);
        Check.same("tell(0, 1, 1) behind hush", r.tell(0, 1, 1), 1);
    }

    private static void tellWrong() {
        KnotRugs r = new KnotRugs();
        for (int n : Check.outside(0, 1)) {
            Check.noIndex(r, "tell(" + n + ", 1, 1)", () -> r.tell(n, 1, 1));
            Check.noIndex(r, "tell(" + n + ", 8, 0)", () -> r.tell(n, 8, 0));
        }
        for (int n : Check.outside(0, 7)) {
            Check.noArgument(r, "tell(0, " + n + ", 1)", () -> r.tell(0, n, 1));
        }
        for (int n : Check.outside(1, 60)) {
            Check.noArgument(r, "tell(0, 1, " + n + ")", () -> r.tell(0, 1, n));
        }
    }

    private static void hushRuns() {
        KnotRugs r = new KnotRugs();
        Check.same("hush(0) without runs", r.hush(0), 0);
        r.tell(0, 1, 60);
        r.tell(0, 2, 7);
        r.tell(1, 3, 9);
        r.pass(2);
        Check.same("hush(0)", r.hush(0), 65);
        Check.same("weaver(0, 1)", r.weaver(0, 1), 0);
        Check.same("weaver(0, 2)", r.weaver(0, 2), 0);
        Check.same("weaver(0, 3)", r.weaver(0, 3), 2);
        Check.same("weaver(1, 2)", r.weaver(1, 2), 7);
        Check.noIndex(r, "run(0, 0, 0) behind hush", () -> r.run(0, 0, 0));
        Check.same("hush(0) again", r.hush(0), 0);
        for (int n : Check.outside(0, 1)) {
            Check.noIndex(r, "hush(" + n + ")", () -> r.hush(n));
        }
    }

    private static void unpickKnots() {
        KnotRugs r = new KnotRugs();
        r.setSpeed(0, 6);
        r.tell(0, 1, 5);
        r.tell(0, 2, 4);
        r.tell(1, 3, 1);
        r.pass(2);
        Check.same("unpick(0, 5)", r.unpick(0, 5), 4);
        Check.same("wool(1)", r.wool(1), 26);
        Check.same("wool(2)", r.wool(2), 30);
        Check.same("cell(4, 0, 0)", r.cell(4, 0, 0), -1);
        Check.same("cell(3, 0, 0)", r.cell(3, 0, 0), 1);
        Check.same("cell(0, 1, 0)", r.cell(0, 1, 0), -1);
        Check.same("weaver(0, 4)", r.weaver(0, 4), 4);
        Check.same("weaver(0, 5)", r.weaver(0, 5), 0);
        Check.same("weaver(1, 3)", r.weaver(1, 3), 1);
        Check.same("count(7)", r.count(7), 5);
        Check.same("unpick(0, 4)", r.unpick(0, 4), 0);
        Check.same("unpick(1, 1)", r.unpick(1, 1), 0);
        Check.same("count(7)", r.count(7), 10);
        Check.same("count(5)", r.count(5), 240);
        Check.same("count(0)", r.count(0), 2);
        Check.same("weaver(0, 1)", r.weaver(0, 1), 0);
    }

    /** The wool of the knot that was made comes back, not that of the colour that was told. */
    private static void unpickIntoFullBasket() {
        KnotRugs r = new KnotRugs();
        r.tell(0, 5, 31);
        r.pass(31);
        Check.same("cell(0, 5, 0)", r.cell(0, 5, 0), 6);
        Check.same("weaver(0, 6)", r.weaver(0, 6), 1);
        r.unpick(0, 1);
        Check.same("wool(5)", r.wool(5), 0);
        Check.same("wool(6)", r.wool(6), 30);
        Check.same("weaver(0, 6) behind unpick", r.weaver(0, 6), 1);
        r.bring(5, 198);
        Check.same("unpick(0, 30)", r.unpick(0, 30), 0);
        Check.same("wool(5), full", r.wool(5), 200);
        Check.same("count(7)", r.count(7), 31);
    }

    private static void unpickWrong() {
        KnotRugs r = new KnotRugs();
        Check.noState(r, "unpick(0, 1) of none", () -> r.unpick(0, 1));
        r.setSpeed(1, 6);
        r.tell(1, 0, 60);
        r.pass(9);
        for (int n : Check.outside(0, 1)) {
            Check.noIndex(r, "unpick(" + n + ", 1)", () -> r.unpick(n, 1));
            Check.noIndex(r, "unpick(" + n + ", 61)", () -> r.unpick(n, 61));
        }
        for (int n : Check.outside(1, 60)) {
            Check.noArgument(r, "unpick(1, " + n + ")", () -> r.unpick(1, n));
            Check.noArgument(r, "unpick(0, " + n + ")", () -> r.unpick(0, n));
        }
        Check.noState(r, "unpick(1, 55)", () -> r.unpick(1, 55));
        Check.noState(r, "unpick(1, 60)", () -> r.unpick(1, 60));
        Check.same("unpick(1, 54)", r.unpick(1, 54), 0);
        r.tell(1, 2, 60);
        r.pass(20);
        Check.same("unpick(1, 60)", r.unpick(1, 60), 0);
    }
}
