/** The edges of the promises 8 to 13, sentence by sentence: cell, sees, weaver, run, count and wool. */
public final class ThereEdgesTest {
    private static final Class<IndexOutOfBoundsException> INDEX = IndexOutOfBoundsException.class;
    private static final Class<IllegalArgumentException> ARGUMENT = IllegalArgumentException.class;

    public static void main(String[] args) {
        cellWithoutAKnot();
        cellRefused();
        seesTheOwnHalf();
        seesBesideTheSeam();
        seesNoFurther();
        seesNoMoreWhenUnpicked();
        seesTheOneDoneHalf();
        seesRefused();
        weaverRuns();
        weaverNextCell();
        weaverAnotherColour();
        weaverRefused();
        runPlaces();
        runLastKnot();
        runRefused();
        countTheHour();
        countKnots();
        countOffThePlan();
        countRows();
        countTorn();
        countAllTorn();
        countWool();
        countEmptyBaskets();
        countUnpicked();
        countRefused();
        woolEdges();
        woolRefused();
        nothingIsChanged();
        Check.end();
    }

    /** Weaver w makes so many knots of a colour; the speed is 1, and nobody else has runs. */
    private static void knot(KnotRugs r, int w, int colour, int knots) {
        r.tell(w, colour, knots);
        r.pass(knots);
    }

    /** The x of a place in the order in which weaver w knots. */
    private static int xOf(int w, int place) {
        return w == 0 ? place % 6 : 11 - place % 6;
    }

    /** "0 the colour of its knot, -1 without one": a knot of the colour 0 is a knot. */
    private static void cellWithoutAKnot() {
        for (int w = 0; w < 2; w++) {
            KnotRugs r = new KnotRugs();
            knot(r, w, 0, 8);
            for (int place = 0; place < 60; place++) {
                Check.same("cell of weaver " + w + ", " + place, r.cell(xOf(w, place), place / 6, 0),
                        place < 8 ? 0 : -1);
                Check.same("cell of the other", r.cell(xOf(1 - w, place), place / 6, 0), -1);
                Check.same("plan", r.cell(xOf(w, place), place / 6, 1), 0);
            }
            r.unpick(w, 1);
            Check.same("cell that is unpicked", r.cell(xOf(w, 7), 1, 0), -1);
            Check.same("cell before it", r.cell(xOf(w, 6), 1, 0), 0);
            knot(r, w, 7, 1);
            Check.same("cell that is knotted again", r.cell(xOf(w, 7), 1, 0), 7);
        }
        KnotRugs r = Story.DONE.lived();
        Check.same("cell(5, 9, 0), the last", r.cell(5, 9, 0), 1);
        Check.same("cell(6, 9, 0), the last", r.cell(6, 9, 0), 1);
        Check.same("cell(0, 0, 1)", r.cell(0, 0, 1), 0);
        Check.same("cell(2, 9, 1)", r.cell(2, 9, 1), 6);
    }

    private static void cellRefused() {
        for (int w = 0; w < 2; w++) {
            int what = w;
            Check.outsideIsRefused(INDEX, "cell(?, 0, " + w + ")", 0, 11, (r, n) -> r.cell(n, 0, what));
            Check.outsideIsRefused(INDEX, "cell(?, 9, " + w + ")", 0, 11, (r, n) -> r.cell(n, 9, what));
            Check.outsideIsRefused(INDEX, "cell(0, ?, " + w + ")", 0, 9, (r, n) -> r.cell(0, n, what));
            Check.outsideIsRefused(INDEX, "cell(11, ?, " + w + ")", 0, 9, (r, n) -> r.cell(11, n, what));
        }
        Check.outsideIsRefused(INDEX, "cell(0, 0, ?)", 0, 1, (r, n) -> r.cell(0, 0, n));
        Check.outsideIsRefused(INDEX, "cell(11, 9, ?)", 0, 1, (r, n) -> r.cell(11, 9, n));
    }

    /** "A weaver sees the own cells", with a knot or without; "-1 without a knot". */
    private static void seesTheOwnHalf() {
        for (Story story : Story.values()) {
            for (int w = 0; w < 2; w++) {
                KnotRugs r = story.lived();
                for (int place = 0; place < 60; place++) {
                    int x = xOf(w, place);
                    int y = place / 6;
                    Check.same("sees(" + w + ", " + x + ", " + y + ") in " + story, r.sees(w, x, y), r.cell(x, y, 0));
                }
            }
        }
        Check.same("sees(0, 0, 0), bare", new KnotRugs().sees(0, 0, 0), -1);
        Check.same("sees(0, 5, 9), bare", new KnotRugs().sees(0, 5, 9), -1);
        Check.same("sees(1, 6, 0), bare", new KnotRugs().sees(1, 6, 0), -1);
        Check.same("sees(1, 11, 9), bare", new KnotRugs().sees(1, 11, 9), -1);
    }

    /** "of the other half the cell beside the seam of a row, if the own half of this row is done" */
    private static void seesBesideTheSeam() {
        for (int w = 0; w < 2; w++) {
            int beside = w == 0 ? 6 : 5;
            for (int other = 0; other < 2; other++) {
                KnotRugs r = new KnotRugs();
                if (other == 1) {
                    knot(r, 1 - w, 0, 30);
                    knot(r, 1 - w, 2, 30);
                }
                for (int made = 0; made < 60; made++) {
                    int y = made / 6;
                    String call = "sees(" + w + ", " + beside + ", ..) with " + made + " knots";
                    Check.same(call, r.sees(w, beside, y), -2);
                    if (y > 0) {
                        int there = other == 0 ? -1 : y - 1 < 5 ? 0 : 2;
                        Check.same(call, r.sees(w, beside, y - 1), there);
                    }
                    if (y < 9) {
                        Check.same(call, r.sees(w, beside, y + 1), -2);
                    }
                    knot(r, w, made % 8, 1);
                }
                Check.same("sees the last row", r.sees(w, beside, 9), other == 0 ? -1 : 2);
                Check.same("sees the first row", r.sees(w, beside, 0), other == 0 ? -1 : 0);
            }
        }
    }

    /** "-2 if the cell is not seen": all others of the other half, also when both are done. */
    private static void seesNoFurther() {
        for (Story story : Story.values()) {
            for (int w = 0; w < 2; w++) {
                KnotRugs r = story.lived();
                for (int place = 0; place < 60; place++) {
                    if (place % 6 < 5) {
                        int x = xOf(1 - w, place);
                        Check.same("sees(" + w + ", " + x + ", " + place / 6 + ") in " + story,
                                r.sees(w, x, place / 6), -2);
                    }
                }
            }
        }
    }

    private static void seesNoMoreWhenUnpicked() {
        KnotRugs r = Story.SEAM.lived();
        Check.same("sees(0, 6, 1), the row is just done", r.sees(0, 6, 1), -1);
        Check.same("sees(0, 6, 2)", r.sees(0, 6, 2), -2);
        Check.same("sees(1, 5, 0)", r.sees(1, 5, 0), 2);
        Check.same("sees(1, 5, 1), a knot is missing", r.sees(1, 5, 1), -2);
        r.unpick(0, 1);
        Check.same("sees(0, 6, 1), unpicked", r.sees(0, 6, 1), -2);
        Check.same("sees(0, 6, 0)", r.sees(0, 6, 0), 3);
        knot(r, 1, 4, 1);
        Check.same("sees(1, 5, 1), no knot is there", r.sees(1, 5, 1), -1);
        knot(r, 0, 0, 1);
        Check.same("sees(1, 5, 1), a knot of the colour 0", r.sees(1, 5, 1), 0);
        Check.same("sees(0, 6, 1)", r.sees(0, 6, 1), 4);
    }

    /** Who is done sees the whole seam, bare as it is on the other side; who is not sees none of it. */
    private static void seesTheOneDoneHalf() {
        for (int w = 0; w < 2; w++) {
            KnotRugs r = new KnotRugs();
            knot(r, w, 3, 60);
            for (int y = 0; y < 10; y++) {
                Check.same("the done one sees the seam", r.sees(w, w == 0 ? 6 : 5, y), -1);
                Check.same("the bare one doesn't", r.sees(1 - w, w == 0 ? 5 : 6, y), -2);
            }
        }
    }

    private static void seesRefused() {
        Check.outsideIsRefused(INDEX, "sees(?, 0, 0)", 0, 1, (r, n) -> r.sees(n, 0, 0));
        Check.outsideIsRefused(INDEX, "sees(?, 11, 9)", 0, 1, (r, n) -> r.sees(n, 11, 9));
        for (int w = 0; w < 2; w++) {
            int who = w;
            Check.outsideIsRefused(INDEX, "sees(" + w + ", ?, 0)", 0, 11, (r, n) -> r.sees(who, n, 0));
            Check.outsideIsRefused(INDEX, "sees(" + w + ", ?, 9)", 0, 11, (r, n) -> r.sees(who, n, 9));
            Check.outsideIsRefused(INDEX, "sees(" + w + ", 5, ?)", 0, 9, (r, n) -> r.sees(who, 5, n));
            Check.outsideIsRefused(INDEX, "sees(" + w + ", 6, ?)", 0, 9, (r, n) -> r.sees(who, 6, n));
            Check.outsideIsRefused(INDEX, "sees(" + w + ", 0, ?)", 0, 9, (r, n) -> r.sees(who, 0, n));
            Check.outsideIsRefused(INDEX, "sees(" + w + ", 11, ?)", 0, 9, (r, n) -> r.sees(who, 11, n));
        }
    }

    /** "1 runs, 2 the knots of all runs, added": none, the most, and all between. */
    private static void weaverRuns() {
        for (int w = 0; w < 2; w++) {
            KnotRugs r = new KnotRugs();
            for (int runs = 0; runs <= 20; runs++) {
                Check.same("weaver(" + w + ", 1)", r.weaver(w, 1), runs);
                Check.same("weaver(" + w + ", 2)", r.weaver(w, 2), 60 * runs);
                if (runs < 20) {
                    r.tell(w, 7, 60);
                }
            }
            r.pass(1);
            Check.same("weaver(" + w + ", 2) behind an hour", r.weaver(w, 2), 1199);
            Check.same("weaver(" + w + ", 1) behind an hour", r.weaver(w, 1), 20);
            r.pass(59);
            Check.same("weaver(" + w + ", 2), the first run is gone", r.weaver(w, 2), 1140);
            Check.same("weaver(" + w + ", 1), the first run is gone", r.weaver(w, 1), 19);
        }
    }

    /** "3 knots in the own half, 4 and 5 the cell that is next, x and y, -1 if the half is done" */
    private static void weaverNextCell() {
        for (int w = 0; w < 2; w++) {
            KnotRugs r = new KnotRugs();
            for (int made = 0; made <= 60; made++) {
                String when = " with " + made + " knots";
                boolean done = made == 60;
                Check.same("weaver(" + w + ", 3)" + when, r.weaver(w, 3), made);
                Check.same("weaver(" + w + ", 4)" + when, r.weaver(w, 4), done ? -1 : xOf(w, made));
                Check.same("weaver(" + w + ", 5)" + when, r.weaver(w, 5), done ? -1 : made / 6);
                if (!done) {
                    knot(r, w, made % 8, 1);
                }
            }
            Check.same("weaver of the other, 4", r.weaver(1 - w, 4), w == 0 ? 11 : 0);
            Check.same("weaver of the other, 5", r.weaver(1 - w, 5), 0);
            r.unpick(w, 1);
            Check.same("weaver(" + w + ", 4), the last is unpicked", r.weaver(w, 4), 5 + w);
            Check.same("weaver(" + w + ", 5), the last is unpicked", r.weaver(w, 5), 9);
        }
    }

    /** "knots in another colour than was told, in all (also those that were unpicked later)" */
    private static void weaverAnotherColour() {
        for (int w = 0; w < 2; w++) {
            KnotRugs r = new KnotRugs();
            knot(r, w, 7, 30);
            Check.same("weaver(" + w + ", 6), the last of the basket", r.weaver(w, 6), 0);
            knot(r, w, 7, 1);
            Check.same("weaver(" + w + ", 6), the first of another", r.weaver(w, 6), 1);
            knot(r, w, 0, 1);
            Check.same("weaver(" + w + ", 6), as told", r.weaver(w, 6), 1);
            r.unpick(w, 2);
            Check.same("weaver(" + w + ", 6), unpicked", r.weaver(w, 6), 1);
            knot(r, w, 7, 2);
            Check.same("weaver(" + w + ", 6), once more", r.weaver(w, 6), 3);
            r.unpick(w, 33 - 1);
            Check.same("weaver(" + w + ", 6), all unpicked", r.weaver(w, 6), 3);
            Check.same("weaver of the other, 6", r.weaver(1 - w, 6), 0);
            r.hush(w);
            r.plan(0, 0, 12, 10, 7);
            Check.same("weaver(" + w + ", 6), the plan is not asked", r.weaver(w, 6), 3);
        }
    }

    private static void weaverRefused() {
        for (int what = 0; what < 7; what++) {
            int one = what;
            Check.outsideIsRefused(INDEX, "weaver(?, " + what + ")", 0, 1, (r, n) -> r.weaver(n, one));
        }
        Check.outsideIsRefused(INDEX, "weaver(0, ?)", 0, 6, (r, n) -> r.weaver(0, n));
        Check.outsideIsRefused(INDEX, "weaver(1, ?)", 0, 6, (r, n) -> r.weaver(1, n));
    }

    /** "there is no such run": the last that is there, and the place behind it, for 0 to 20 runs. */
    private static void runPlaces() {
        for (int w = 0; w < 2; w++) {
            int who = w;
            KnotRugs r = new KnotRugs();
            r.tell(1 - w, 1, 1);
            r.tell(1 - w, 1, 1);
            for (int runs = 0; runs <= 20; runs++) {
                int behind = runs;
                Check.noIndex(r, "run(" + w + ", " + runs + ", 0) of " + runs, () -> r.run(who, behind, 0));
                Check.noIndex(r, "run(" + w + ", " + runs + ", 1) of " + runs, () -> r.run(who, behind, 1));
                Check.noIndex(r, "run(" + w + ", -1, 0) of " + runs, () -> r.run(who, -1, 0));
                if (runs < 20) {
                    r.tell(w, runs % 8, 60 - runs);
                    Check.same("run(" + w + ", " + runs + ", 0)", r.run(w, runs, 0), runs % 8);
                    Check.same("run(" + w + ", " + runs + ", 1)", r.run(w, runs, 1), 60 - runs);
                    Check.same("run(" + w + ", 0, 1)", r.run(w, 0, 1), 60);
                }
            }
            r.hush(w);
            Check.noIndex(r, "run(" + w + ", 0, 0) behind hush", () -> r.run(who, 0, 0));
            Check.same("run of the other", r.run(1 - w, 1, 0), 1);
        }
    }

    /** "1 its knots that are left": down to 1; with none left it is gone, and the next is the first. */
    private static void runLastKnot() {
        for (int w = 0; w < 2; w++) {
            int who = w;
            KnotRugs r = new KnotRugs();
            r.tell(w, 3, 3);
            r.tell(w, 5, 1);
            for (int left = 3; left >= 1; left--) {
                Check.same("run(" + w + ", 0, 0)", r.run(w, 0, 0), 3);
                Check.same("run(" + w + ", 0, 1)", r.run(w, 0, 1), left);
                Check.same("run(" + w + ", 1, 1)", r.run(w, 1, 1), 1);
                r.pass(1);
            }
            Check.same("run(" + w + ", 0, 0), the next", r.run(w, 0, 0), 5);
            Check.same("run(" + w + ", 0, 1), the next", r.run(w, 0, 1), 1);
            Check.noIndex(r, "run(" + w + ", 1, 0)", () -> r.run(who, 1, 0));
            r.pass(1);
            Check.noIndex(r, "run(" + w + ", 0, 0), the last is gone", () -> r.run(who, 0, 0));
        }
    }

    private static void runRefused() {
        for (int what = 0; what < 2; what++) {
            int one = what;
            Check.outsideIsRefused(INDEX, "run(?, 0, " + what + ")", 0, 1, (r, n) -> r.run(n, 0, one));
            Check.outsideIsRefused(INDEX, "run(0, ?, " + what + ")", 0, 19, (r, n) -> r.run(0, n, one));
            Check.outsideIsRefused(INDEX, "run(1, ?, " + what + ")", 0, 19, (r, n) -> r.run(1, n, one));
        }
        Check.outsideIsRefused(INDEX, "run(0, 0, ?)", 0, 1, (r, n) -> r.run(0, 0, n));
        Check.outsideIsRefused(INDEX, "run(1, 0, ?)", 0, 1, (r, n) -> r.run(1, 0, n));
        Check.refusedIn(Story.BARE, INDEX, "run(0, 0, 0)", r -> r.run(0, 0, 0));
        Check.refusedIn(Story.TWENTY, INDEX, "run(1, 20, 0)", r -> r.run(1, 20, 0));
        Check.refusedIn(Story.DONE, INDEX, "run(1, 1, 1)", r -> r.run(1, 1, 1));
        Check.refusedIn(Story.FULL, INDEX, "run(0, 0, 1)", r -> r.run(0, 0, 1));
    }

    /** "0 the hour": from 0, by each hour that goes by, and by nothing else. */
    private static void countTheHour() {
        KnotRugs r = new KnotRugs();
        r.tell(0, 1, 2);
        r.bring(1, 2);
        r.foresee(60, 0);
        r.done(0);
        Check.same("count(0), no hour went by", r.count(0), 0);
        r.pass(1);
        Check.same("count(0)", r.count(0), 1);
        r.unpick(0, 1);
        r.hush(0);
        Check.same("count(0)", r.count(0), 1);
        r.pass(60);
        Check.same("count(0)", r.count(0), 61);
    }

    private static void countKnots() {
        KnotRugs r = new KnotRugs();
        Check.same("count(1), bare", r.count(1), 0);
        knot(r, 0, 0, 1);
        Check.same("count(1), one", r.count(1), 1);
        knot(r, 1, 0, 1);
        Check.same("count(1), two", r.count(1), 2);
        knot(r, 0, 1, 59);
        knot(r, 1, 5, 58);
        Check.same("count(1), one is missing", r.count(1), 119);
        knot(r, 1, 5, 1);
        Check.same("count(1), full", r.count(1), 120);
        r.tell(0, 1, 1);
        r.pass(1);
        Check.same("count(1), full, behind an hour", r.count(1), 120);
        r.unpick(0, 60);
        Check.same("count(1), half", r.count(1), 60);
    }

    /** "2 knots that differ from the plan": where no knot is, nothing differs. */
    private static void countOffThePlan() {
        KnotRugs r = new KnotRugs();
        r.plan(0, 0, 12, 10, 7);
        Check.same("count(2), bare", r.count(2), 0);
        knot(r, 0, 0, 1);
        Check.same("count(2), one", r.count(2), 1);
        knot(r, 0, 7, 1);
        Check.same("count(2), one of two", r.count(2), 1);
        knot(r, 1, 6, 1);
        Check.same("count(2), two of three", r.count(2), 2);
        r.plan(0, 0, 1, 1, 0);
        r.plan(11, 0, 1, 1, 6);
        Check.same("count(2), by another plan", r.count(2), 0);
        KnotRugs full = Story.DONE.lived();
        full.plan(0, 0, 12, 10, 5);
        Check.same("count(2), full, all differ", full.count(2), 120);
        full.plan(5, 9, 2, 1, 1);
        Check.same("count(2), full, all but the last two", full.count(2), 118);
        full.unpick(0, 1);
        Check.same("count(2), one as planned is unpicked", full.count(2), 118);
        full.unpick(0, 1);
        Check.same("count(2), one that differs is unpicked", full.count(2), 117);
    }

    /** "3 rows that are done in both halves": with the last knot of the second half, not before. */
    private static void countRows() {
        KnotRugs r = new KnotRugs();
        for (int y = 0; y < 10; y++) {
            knot(r, y % 2, y % 8, 6);
            Check.same("count(3), the row " + y + " in one half", r.count(3), y);
            knot(r, 1 - y % 2, y % 8, 5);
            Check.same("count(3), the row " + y + " but for a knot", r.count(3), y);
            knot(r, 1 - y % 2, y % 8, 1);
            Check.same("count(3), the row " + y, r.count(3), y + 1);
        }
        r.unpick(0, 1);
        Check.same("count(3), unpicked", r.count(3), 9);
        r.unpick(0, 59);
        Check.same("count(3), one half is bare", r.count(3), 0);
        KnotRugs one = new KnotRugs();
        knot(one, 1, 2, 60);
        Check.same("count(3), one half is done, the other bare", one.count(3), 0);
    }

    /** "alike where the plan is not, or not alike where it is": all four, in the first row and the last. */
    private static void countTorn() {
        int[][] cases = {{4, 4, 4, 4, 0}, {4, 4, 4, 5, 1}, {4, 5, 4, 4, 1}, {4, 5, 4, 5, 0}, {0, 0, 7, 7, 0},
            {0, 0, 7, 6, 1}, {0, 7, 3, 3, 1}, {7, 0, 0, 7, 0}};
        for (int[] c : cases) {
            String when = " with knots " + c[0] + ", " + c[1] + " and plan " + c[2] + ", " + c[3];
            KnotRugs r = new KnotRugs();
            r.plan(5, 0, 1, 1, c[2]);
            r.plan(6, 0, 1, 1, c[3]);
            knot(r, 0, 1, 5);
            knot(r, 0, c[0], 1);
            knot(r, 1, 2, 5);
            Check.same("count(4), the row is not done" + when, r.count(4), 0);
            knot(r, 1, c[1], 1);
            Check.same("count(4)" + when, r.count(4), c[4]);
            Check.same("foresee(1, 2)" + when, r.foresee(1, 2), c[4]);
            r.unpick(0, 1);
            Check.same("count(4), unpicked" + when, r.count(4), 0);
        }
    }

    private static void countAllTorn() {
        KnotRugs r = new KnotRugs();
        for (int y = 0; y < 10; y++) {
            knot(r, 0, y % 8, 6);
            knot(r, 1, (y + 1) % 8, 6);
            Check.same("count(4), the row " + y, r.count(4), y + 1);
        }
        r.plan(4, 0, 1, 10, 5);
        r.plan(7, 0, 1, 10, 5);
        Check.same("count(4), a plan that is not at the seam", r.count(4), 10);
        for (int y = 9; y >= 0; y--) {
            r.plan(y % 2 == 0 ? 5 : 6, y, 1, 1, 1);
            Check.same("count(4), the plan of the row " + y + " is not alike either", r.count(4), y);
        }
        r.plan(5, 9, 2, 1, 6);
        Check.same("count(4), the last row", r.count(4), 1);
        r.plan(5, 0, 2, 1, 6);
        Check.same("count(4), the first row too", r.count(4), 2);
    }

    /** "5 wool of all baskets": 240 at first, 1600 at most. */
    private static void countWool() {
        KnotRugs r = new KnotRugs();
        Check.same("count(5), at first", r.count(5), 240);
        for (int colour = 0; colour < 8; colour++) {
            r.bring(colour, 200);
            Check.same("count(5), full up to " + colour, r.count(5), 240 + 170 * (colour + 1));
        }
        knot(r, 1, 7, 1);
        Check.same("count(5), one is used", r.count(5), 1599);
        r.unpick(1, 1);
        Check.same("count(5), it is back", r.count(5), 1600);
        Check.same("count(5), the least", Story.DONE.lived().count(5), 120);
    }

    /** "6 empty baskets": none with wool for one knot; four at most, 120 knots can't empty five. */
    private static void countEmptyBaskets() {
        for (int colour = 0; colour < 8; colour++) {
            KnotRugs r = new KnotRugs();
            knot(r, 0, colour, 29);
            Check.same("count(6), one is left", r.count(6), 0);
            knot(r, 0, colour, 1);
            Check.same("count(6), none is left", r.count(6), 1);
            r.unpick(0, 1);
            Check.same("count(6), one is back", r.count(6), 0);
            knot(r, 0, colour, 1);
            r.bring(colour, 1);
            Check.same("count(6), one is brought", r.count(6), 0);
        }
        Check.same("count(6), the most", Story.DONE.lived().count(6), 4);
        Check.same("count(6), full", Story.FULL.lived().count(6), 0);
    }

    /** "7 knots that were unpicked in all", of both halves, also when they are knotted again. */
    private static void countUnpicked() {
        KnotRugs r = new KnotRugs();
        knot(r, 0, 1, 4);
        knot(r, 1, 2, 4);
        Check.same("count(7), none", r.count(7), 0);
        r.unpick(0, 1);
        Check.same("count(7), one", r.count(7), 1);
        r.unpick(1, 4);
        Check.same("count(7), of both", r.count(7), 5);
        knot(r, 0, 1, 1);
        Check.same("count(7), knotted again", r.count(7), 5);
        r.unpick(0, 4);
        Check.same("count(7), once more", r.count(7), 9);
        Check.noState(r, "unpick(0, 1)", () -> r.unpick(0, 1));
        Check.same("count(7) behind a refused call", r.count(7), 9);
    }

    private static void countRefused() {
        Check.outsideIsRefused(INDEX, "count(?)", 0, 7, (r, n) -> r.count(n));
    }

    private static void woolEdges() {
        for (int colour = 0; colour < 8; colour++) {
            KnotRugs r = new KnotRugs();
            Check.same("wool(" + colour + "), at first", r.wool(colour), 30);
            for (int left = 29; left >= 0; left--) {
                knot(r, 1, colour, 1);
                Check.same("wool(" + colour + ")", r.wool(colour), left);
            }
            knot(r, 1, colour, 1);
            Check.same("wool(" + colour + "), it stays empty", r.wool(colour), 0);
            Check.same("wool of the next", r.wool((colour + 1) % 8), 29);
            r.bring(colour, 200);
            Check.same("wool(" + colour + "), full", r.wool(colour), 200);
        }
    }

    private static void woolRefused() {
        Check.outsideIsRefused(ARGUMENT, "wool(?)", 0, 7, (r, n) -> r.wool(n));
    }

    /** What tells what is there changes nothing of it. */
    private static void nothingIsChanged() {
        Check.changesNothing("cell(5, 9, 0)", r -> r.cell(5, 9, 0));
        Check.changesNothing("cell(5, 9, 1)", r -> r.cell(5, 9, 1));
        for (int w = 0; w < 2; w++) {
            int who = w;
            Check.changesNothing("sees(" + w + ", 5, 1)", r -> r.sees(who, 5, 1));
            Check.changesNothing("sees(" + w + ", 6, 1)", r -> r.sees(who, 6, 1));
            for (int what = 0; what < 7; what++) {
                int one = what;
                Check.changesNothing("weaver(" + w + ", " + what + ")", r -> r.weaver(who, one));
            }
        }
        for (int what = 0; what < 8; what++) {
            int one = what;
            Check.changesNothing("count(" + what + ")", r -> r.count(one));
            Check.changesNothing("wool(" + what + ")", r -> r.wool(one));
        }
    }
}
