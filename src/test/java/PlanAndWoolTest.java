/** Promises 1 to 3: a new object, plan and bring. */
public final class PlanAndWoolTest {
    public static void main(String[] args) {
        newObject();
        planParts();
        planEdges();
        planWrong();
        bringWool();
        bringWrong();
        Check.end();
    }

    private static void newObject() {
        KnotRugs r = new KnotRugs();
        for (int y = 0; y < 10; y++) {
            for (int x = 0; x < 12; x++) {
                Check.same("new: cell(" + x + ", " + y + ", 0)", r.cell(x, y, 0), -1);
                Check.same("new: cell(" + x + ", " + y + ", 1)", r.cell(x, y, 1), 0);
            }
        }
        int[] counts = {0, 0, 0, 0, 0, 240, 0, 0};
        for (int what = 0; what < 8; what++) {
            Check.same("new: count(" + what + ")", r.count(what), counts[what]);
            Check.same("new: wool(" + what + ")", r.wool(what), 30);
        }
        int[][] weavers = {{1, 0, 0, 0, 0, 0, 0}, {1, 0, 0, 0, 11, 0, 0}};
        for (int w = 0; w < 2; w++) {
            for (int what = 0; what < 7; what++) {
                Check.same("new: weaver(" + w + ", " + what + ")", r.weaver(w, what), weavers[w][what]);
            }
            Check.same("new: advise(" + w + ")", r.advise(w), 60);
            Check.same("new: runs(" + w + ")", r.runs(w), 1);
            Check.same("new: mends(" + w + ")", r.mends(w), 0);
            Check.same("new: done(" + w + ")", r.done(w), 0);
        }
        Check.sameDouble("new: share()", r.share(), 0.0);
        KnotRugs other = new KnotRugs();
        other.plan(0, 0, 1, 1, 3);
        other.bring(0, 5);
        other.tell(0, 1, 2);
        other.pass(1);
        Check.same("new: untouched by another object", r.digest(), new KnotRugs().digest());
    }

    private static void planParts() {
        KnotRugs r = new KnotRugs();
        Check.same("plan(0, 0, 12, 10, 1)", r.plan(0, 0, 12, 10, 1), 120);
        Check.same("plan(0, 0, 12, 10, 1) again", r.plan(0, 0, 12, 10, 1), 0);
        Check.same("plan(4, 2, 5, 3, 7)", r.plan(4, 2, 5, 3, 7), 15);
        Check.same("plan(3, 2, 3, 2, 7)", r.plan(3, 2, 3, 2, 7), 2);
        for (int y = 0; y < 10; y++) {
            for (int x = 0; x < 12; x++) {
                boolean in = x >= 4 && x < 9 && y >= 2 && y < 5 || x == 3 && (y == 2 || y == 3);
                Check.same("cell(" + x + ", " + y + ", 1)", r.cell(x, y, 1), in ? 7 : 1);
                Check.same("cell(" + x + ", " + y + ", 0)", r.cell(x, y, 0), -1);
            }
        }
    }

    private static void planEdges() {
        KnotRugs r = new KnotRugs();
        Check.same("plan(11, 9, 1, 1, 7)", r.plan(11, 9, 1, 1, 7), 1);
        Check.same("cell(11, 9, 1)", r.cell(11, 9, 1), 7);
        Check.same("plan(11, 0, 1, 10, 7)", r.plan(11, 0, 1, 10, 7), 9);
        Check.same("plan(0, 9, 12, 1, 7)", r.plan(0, 9, 12, 1, 7), 11);
        Check.same("plan(0, 0, 1, 1, 0)", r.plan(0, 0, 1, 1, 0), 0);
        Check.same("plan(0, 0, 12, 10, 0)", r.plan(0, 0, 12, 10, 0), 21);
    }

    private static void planWrong() {
        KnotRugs r = new KnotRugs();
        r.plan(2, 2, 6, 6, 4);
        for (int n : Check.outside(0, 11)) {
            Check.noIndex(r, "plan(" + n + ", 0, 1, 1, 1)", () -> r.plan(n, 0, 1, 1, 1));
            Check.noIndex(r, "plan(" + n + ", 0, 0, 0, 8)", () -> r.plan(n, 0, 0, 0, 8));
        }
        for (int n : Check.outside(0, 9)) {
            Check.noIndex(r, "plan(0, " + n + ", 1, 1, 1)", () -> r.plan(0, n, 1, 1, 1));
            Check.noIndex(r, "plan(0, " + n + ", 13, 11, -1)", () -> r.plan(0, n, 13, 11, -1));
        }
        for (int n : Check.outside(1, 12)) {
            Check.noArgument(r, "plan(0, 0, " + n + ", 1, 1)", () -> r.plan(0, 0, n, 1, 1));
        }
        for (int n : Check.outside(1, 10)) {
            Check.noArgument(r, "plan(0, 0, 1, " + n + ", 1)", () -> r.plan(0, 0, 1, n, 1));
        }
        for (int n : Check.outside(0, 7)) {
            Check.noArgument(r, "plan(0, 0, 1, 1, " + n + ")", () -> r.plan(0, 0, 1, 1, n));
        }
        for (int n : Check.outside(1, 2)) {
            Check.noArgument(r, "plan(10, 8, " + n + ", 1, 1)", () -> r.plan(10, 8, n, 1, 1));
            Check.noArgument(r, "plan(10, 8, 1, " + n + ", 1)", () -> r.plan(10, 8, 1, n, 1));
        }
        Check.same("plan(10, 8, 2, 2, 1)", r.plan(10, 8, 2, 2, 1), 4);
    }

    private static void bringWool() {
        KnotRugs r = new KnotRugs();
        Check.same("bring(0, 1)", r.bring(0, 1), 31);
        Check.same("bring(7, 169)", r.bring(7, 169), 199);
        Check.same("bring(7, 1)", r.bring(7, 1), 200);
        Check.same("bring(7, 1) when full", r.bring(7, 1), 200);
        Check.same("bring(3, 200)", r.bring(3, 200), 200);
        Check.same("bring(4, 171)", r.bring(4, 171), 200);
        int[] wool = {31, 30, 30, 200, 200, 30, 30, 200};
        for (int c = 0; c < 8; c++) {
            Check.same("wool(" + c + ")", r.wool(c), wool[c]);
        }
        Check.same("count(5)", r.count(5), 751);
    }

    private static void bringWrong() {
        KnotRugs r = new KnotRugs();
        for (int n : Check.outside(0, 7)) {
            Check.noArgument(r, "bring(" + n + ", 1)", () -> r.bring(n, 1));
        }
        for (int n : Check.outside(1, 200)) {
            Check.noArgument(r, "bring(1, " + n + ")", () -> r.bring(1, n));
        }
    }
}
