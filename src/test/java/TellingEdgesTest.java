/** The edges of the promises 14 to 16, sentence by sentence: advise, runs and mends. */
public final class TellingEdgesTest {
    private static final Class<IndexOutOfBoundsException> INDEX = IndexOutOfBoundsException.class;

    public static void main(String[] args) {
        adviseEachLength();
        adviseFromEachCell();
        adviseTheLastCell();
        adviseInTheOwnHalf();
        adviseWithoutTheRunsTold();
        adviseWithoutTheWool();
        adviseRefused();
        runsFewestAndMost();
        runsFromEachCell();
        runsOfTheRestAlone();
        runsTellTheRest();
        runsRefused();
        mendsNothing();
        mendsEachFirstKnot();
        mendsTheOwnHalf();
        mendsAreEnough();
        mendsRefused();
        nothingIsChanged();
        Check.end();
    }

    private static void knot(KnotRugs r, int w, int colour, int knots) {
        r.tell(w, colour, knots);
        r.pass(knots);
    }

    /** Plans the cell that weaver w reaches at this place of the own order. */
    private static void planPlace(KnotRugs r, int w, int place, int colour) {
        r.plan(w == 0 ? place % 6 : 11 - place % 6, place / 6, 1, 1, colour);
    }

    /** "the longest run": 1 to 60 knots, over the ends of rows. */
    private static void adviseEachLength() {
        for (int w = 0; w < 2; w++) {
            KnotRugs r = new KnotRugs();
            r.plan(0, 0, 12, 10, 3);
            for (int length = 1; length <= 60; length++) {
                planPlace(r, w, length - 1, 7);
                Check.same("advise(" + w + ") with " + length, r.advise(w), 700 + length);
                Check.same("runs(" + w + ") with " + length, r.runs(w), length == 60 ? 1 : 2);
                Check.same("advise of the other", r.advise(1 - w), 360);
            }
        }
    }

    /** "from the next cell on", to the end of the half; "-1 if the half is done". */
    private static void adviseFromEachCell() {
        for (int w = 0; w < 2; w++) {
            KnotRugs r = new KnotRugs();
            for (int made = 0; made < 60; made++) {
                Check.same("advise(" + w + ") with " + made + " knots", r.advise(w), 60 - made);
                knot(r, w, made % 8, 1);
            }
            Check.same("advise(" + w + "), done", r.advise(w), -1);
            Check.same("advise of the other", r.advise(1 - w), 60);
            r.tell(w, 5, 9);
            Check.same("advise(" + w + "), done, with a run", r.advise(w), -1);
            r.unpick(w, 1);
            Check.same("advise(" + w + "), one is unpicked", r.advise(w), 1);
        }
    }

    private static void adviseTheLastCell() {
        for (int w = 0; w < 2; w++) {
            for (int colour = 0; colour < 8; colour++) {
                KnotRugs r = new KnotRugs();
                r.plan(0, 0, 12, 10, 4);
                planPlace(r, w, 59, colour);
                knot(r, w, 1, 58);
                Check.same("advise(" + w + "), two cells", r.advise(w), colour == 4 ? 402 : 401);
                Check.same("runs(" + w + "), two cells", r.runs(w), colour == 4 ? 1 : 2);
                knot(r, w, 1, 1);
                Check.same("advise(" + w + "), the last cell", r.advise(w), 100 * colour + 1);
                Check.same("runs(" + w + "), the last cell", r.runs(w), 1);
                knot(r, w, 1, 1);
                Check.same("advise(" + w + "), done", r.advise(w), -1);
                Check.same("runs(" + w + "), done", r.runs(w), 0);
            }
        }
    }

    /** From the seam a run goes on at the own rim of the next row, and never beyond the seam. */
    private static void adviseInTheOwnHalf() {
        KnotRugs r = new KnotRugs();
        r.plan(5, 0, 2, 1, 6);
        knot(r, 0, 1, 5);
        knot(r, 1, 1, 5);
        Check.same("advise(0) at the seam", r.advise(0), 601);
        Check.same("advise(1) at the seam", r.advise(1), 601);
        r.plan(0, 1, 1, 1, 6);
        Check.same("advise(0) with the rim of the next row", r.advise(0), 602);
        Check.same("advise(1) without", r.advise(1), 601);
        r.plan(10, 1, 2, 1, 6);
        Check.same("advise(1) with the rim of the next row", r.advise(1), 603);
        Check.same("advise(0) as before", r.advise(0), 602);
        r.plan(0, 0, 6, 10, 2);
        Check.same("advise(0), the own half", r.advise(0), 255);
        Check.same("advise(1) as before", r.advise(1), 603);
    }

    /** "without the runs told so far": one, or the most, of the advised colour or another. */
    private static void adviseWithoutTheRunsTold() {
        for (int w = 0; w < 2; w++) {
            KnotRugs r = new KnotRugs();
            planPlace(r, w, 0, 5);
            planPlace(r, w, 1, 5);
            for (int runs = 0; runs < 20; runs++) {
                Check.same("advise(" + w + ") with " + runs + " runs", r.advise(w), 502);
                Check.same("runs(" + w + ") with " + runs + " runs", r.runs(w), 2);
                r.tell(w, runs % 2 == 0 ? 5 : 1, 60);
            }
            Check.same("advise(" + w + ") with 20 runs", r.advise(w), 502);
            Check.same("runs(" + w + ") with 20 runs", r.runs(w), 2);
            r.pass(1);
            Check.same("advise(" + w + ") behind an hour", r.advise(w), 501);
        }
    }

    /** The plan alone is asked: an empty basket and knots off the plan change no advice. */
    private static void adviseWithoutTheWool() {
        KnotRugs r = new KnotRugs();
        r.plan(0, 0, 12, 10, 2);
        knot(r, 0, 2, 30);
        Check.same("wool(2)", r.wool(2), 0);
        Check.same("advise(0), its basket is empty", r.advise(0), 230);
        Check.same("advise(1), its basket is empty", r.advise(1), 260);
        knot(r, 0, 2, 1);
        Check.same("cell(0, 5, 0)", r.cell(0, 5, 0), 3);
        Check.same("advise(0), a knot is off the plan", r.advise(0), 229);
        Check.same("runs(0), a knot is off the plan", r.runs(0), 1);
    }

    private static void adviseRefused() {
        Check.outsideIsRefused(INDEX, "advise(?)", 0, 1, (r, n) -> r.advise(n));
    }

    /** "how few runs": 1 for one colour, 60 where each cell has another than the one before. */
    private static void runsFewestAndMost() {
        for (int w = 0; w < 2; w++) {
            KnotRugs r = new KnotRugs();
            Check.same("runs(" + w + "), bare", r.runs(w), 1);
            for (int place = 0; place < 60; place++) {
                planPlace(r, w, place, 1 + place % 2);
                int due = place == 59 ? 60 : place + 2;
                Check.same("runs(" + w + ") up to " + place, r.runs(w), due);
            }
            Check.same("runs of the other", r.runs(1 - w), 1);
            planPlace(r, w, 30, 2);
            Check.same("runs(" + w + "), one alike its neighbours", r.runs(w), 58);
        }
    }

    /** "from the next cell on": one less with each knot, 1 for the last cell, 0 if the half is done. */
    private static void runsFromEachCell() {
        for (int w = 0; w < 2; w++) {
            KnotRugs r = new KnotRugs();
            for (int place = 0; place < 60; place++) {
                planPlace(r, w, place, place % 3);
            }
            for (int made = 0; made < 60; made++) {
                Check.same("runs(" + w + ") with " + made + " knots", r.runs(w), 60 - made);
                Check.same("advise(" + w + ") with " + made + " knots", r.advise(w), 100 * (made % 3) + 1);
                knot(r, w, 7 - made % 4, 1);
            }
            Check.same("runs(" + w + "), done", r.runs(w), 0);
            r.unpick(w, 60);
            Check.same("runs(" + w + "), bare again", r.runs(w), 60);
        }
    }

    /** A run that began behind the next cell counts with what is left of it. */
    private static void runsOfTheRestAlone() {
        KnotRugs r = new KnotRugs();
        r.plan(0, 0, 12, 1, 1);
        r.plan(0, 1, 12, 1, 2);
        for (int made = 0; made < 18; made++) {
            int due = made < 6 ? 3 : made < 12 ? 2 : 1;
            Check.same("runs(0) with " + made + " knots", r.runs(0), due);
            Check.same("runs(1) with " + made + " knots", r.runs(1), due);
            r.tell(0, 0, 1);
            r.tell(1, 0, 1);
            r.pass(1);
        }
    }

    /** As many runs as runs() tells, each as advise() tells it, are the rest by the plan. */
    private static void runsTellTheRest() {
        for (Story story : Story.values()) {
            for (int w = 0; w < 2; w++) {
                KnotRugs r = story.lived();
                r.hush(0);
                r.hush(1);
                r.setSpeed(w, 1);
                for (int colour = 0; colour < 8; colour++) {
                    r.bring(colour, 200);
                }
                int mends = r.mends(w);
                int told = 0;
                int due = r.runs(w);
                for (int advice = r.advise(w); advice != -1 && told <= 60; advice = r.advise(w)) {
                    Check.same("runs(" + w + ") in " + story, r.runs(w), due - told);
                    knot(r, w, advice / 100, advice % 100);
                    told++;
                }
                Check.same("runs told in " + story, told, due);
                Check.same("weaver(" + w + ", 3) in " + story, r.weaver(w, 3), 60);
                Check.same("the knots told are as in the plan", mends == 0 ? r.mends(w) : 0, 0);
            }
        }
    }

    private static void runsRefused() {
        Check.outsideIsRefused(INDEX, "runs(?)", 0, 1, (r, n) -> r.runs(n));
    }

    /** Nothing to unpick: no knots, whatever the plan, or no knot that differs. */
    private static void mendsNothing() {
        for (int w = 0; w < 2; w++) {
            KnotRugs r = new KnotRugs();
            Check.same("mends(" + w + "), bare", r.mends(w), 0);
            r.plan(0, 0, 12, 10, 6);
            Check.same("mends(" + w + "), bare, another plan", r.mends(w), 0);
            for (int made = 1; made <= 30; made++) {
                knot(r, w, 6, 1);
                Check.same("mends(" + w + ") with " + made + " knots", r.mends(w), 0);
            }
            r.bring(6, 30);
            knot(r, w, 6, 30);
            Check.same("mends(" + w + "), done, as in the plan", r.mends(w), 0);
        }
    }

    /** The first one that differs and all behind it: of a full half, from 60 down to 1. */
    private static void mendsEachFirstKnot() {
        for (int w = 0; w < 2; w++) {
            KnotRugs r = new KnotRugs();
            r.bring(0, 60);
            knot(r, w, 0, 60);
            for (int place = 59; place >= 0; place--) {
                planPlace(r, w, place, 3);
                Check.same("mends(" + w + ") from " + place, r.mends(w), 60 - place);
            }
            for (int place = 0; place < 60; place++) {
                planPlace(r, w, place, 0);
                Check.same("mends(" + w + ") behind " + place, r.mends(w), 59 - place);
            }
            planPlace(r, w, 20, 3);
            planPlace(r, w, 40, 3);
            Check.same("mends(" + w + "), the first of two", r.mends(w), 40);
        }
    }

    private static void mendsTheOwnHalf() {
        for (int w = 0; w < 2; w++) {
            KnotRugs r = new KnotRugs();
            r.plan(0, 0, 12, 10, 1);
            knot(r, w, 1, 7);
            knot(r, 1 - w, 2, 7);
            Check.same("mends(" + w + "), as in the plan", r.mends(w), 0);
            Check.same("mends of the other", r.mends(1 - w), 7);
            planPlace(r, w, 7, 5);
            Check.same("mends(" + w + "), the cell behind has no knot", r.mends(w), 0);
            planPlace(r, w, 6, 5);
            Check.same("mends(" + w + "), the latest knot", r.mends(w), 1);
            r.tell(w, 5, 9);
            Check.same("mends(" + w + "), runs are no knots", r.mends(w), 1);
        }
    }

    /** "so that no knot of the half differs": as many are enough, and one less is not. */
    private static void mendsAreEnough() {
        for (Story story : Story.values()) {
            for (int w = 0; w < 2; w++) {
                KnotRugs r = story.lived();
                int mends = r.mends(w);
                if (mends > 1) {
                    r.unpick(w, mends - 1);
                    Check.same("mends(" + w + "), all but one, in " + story, r.mends(w), 1);
                    r.unpick(w, 1);
                } else if (mends == 1) {
                    r.unpick(w, 1);
                }
                Check.same("mends(" + w + "), mended, in " + story, r.mends(w), 0);
                int made = r.weaver(w, 3);
                int off = 0;
                for (int place = 0; place < made; place++) {
                    int x = w == 0 ? place % 6 : 11 - place % 6;
                    off += r.cell(x, place / 6, 0) == r.cell(x, place / 6, 1) ? 0 : 1;
                }
                Check.same("knots that differ, mended, in " + story, off, 0);
            }
        }
    }

    private static void mendsRefused() {
        Check.outsideIsRefused(INDEX, "mends(?)", 0, 1, (r, n) -> r.mends(n));
    }

    private static void nothingIsChanged() {
        for (int w = 0; w < 2; w++) {
            int who = w;
            Check.changesNothing("advise(" + w + ")", r -> r.advise(who));
            Check.changesNothing("runs(" + w + ")", r -> r.runs(who));
            Check.changesNothing("mends(" + w + ")", r -> r.mends(who));
        }
    }
}
