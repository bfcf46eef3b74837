/** The edges of the promises 17 to 21, sentence by sentence: pass, done, foresee, share and digest. */
public final class HoursEdgesTest {
    private static final Class<IndexOutOfBoundsException> INDEX = IndexOutOfBoundsException.class;
    private static final Class<IllegalArgumentException> ARGUMENT = IllegalArgumentException.class;

    public static void main(String[] args) {
        passEachNumberOfHours();
        passHourByHour();
        passWithoutWork();
        passAsManyAsTheSpeed();
        passTheLastKnotOfARun();
        passTheLastCell();
        passTheLastKnotAndTheLastCell();
        passEachEmptyBasket();
        passOverEmptyBaskets();
        passABasketThatIsFilledAgain();
        passBothAtOneBasket();
        passRefused();
        doneAtOnce();
        doneRunsOut();
        doneNoCell();
        doneTheMost();
        doneWhenItIs();
        doneRefused();
        foreseeAsItComes();
        foreseeBothHalves();
        foreseeNoFurther();
        foreseeRefused();
        foreseeWhichExceptionFirst();
        nothingIsChanged();
        shares();
        digestsWritten();
        digestsFromTheFace();
        digestsOfEqualStates();
        digestsOfOtherStates();
        Check.end();
    }

    private static void knot(KnotRugs r, int w, int colour, int knots) {
        r.tell(w, colour, knots);
        r.pass(knots);
    }

    /** Hours from 1 to 60, one knot in each; "The hour is 1 greater". */
    private static void passEachNumberOfHours() {
        for (int hours = 1; hours <= 60; hours++) {
            KnotRugs r = new KnotRugs();
            r.tell(0, 1, 60);
            Check.same("pass(" + hours + ")", r.pass(hours), hours);
            Check.same("count(0)", r.count(0), hours);
            Check.same("weaver(0, 3)", r.weaver(0, 3), hours);
            Check.same("weaver(0, 2)", r.weaver(0, 2), 60 - hours);
            Check.same("weaver(1, 3)", r.weaver(1, 3), 0);
        }
    }

    /** Many hours in one call are as many calls of one hour. */
    private static void passHourByHour() {
        for (Story story : Story.values()) {
            for (int hours : new int[] {1, 2, 3, 10, 59, 60}) {
                KnotRugs one = story.lived();
                int sum = 0;
                for (int i = 0; i < hours; i++) {
                    sum += one.pass(1);
                }
                KnotRugs all = story.lived();
                String call = "pass(" + hours + ") in " + story;
                Check.same(call, all.pass(hours), sum);
                if (hours <= 3) {
                    Check.sameText(call, View.difference(View.of(one), View.of(all)), "");
                } else {
                    Check.same("digest() behind " + call, all.digest(), one.digest());
                }
            }
        }
    }

    /** No runs, or no cell: no knots, and the hours go by all the same. */
    private static void passWithoutWork() {
        KnotRugs r = new KnotRugs();
        Check.same("pass(1), bare", r.pass(1), 0);
        Check.same("pass(60), bare", r.pass(60), 0);
        Check.same("count(0)", r.count(0), 61);
        Check.same("count(5)", r.count(5), 240);
        KnotRugs done = Story.DONE.lived();
        Check.same("pass(60), done, with runs", done.pass(60), 0);
        Check.same("count(0)", done.count(0), 70);
        Check.same("weaver(0, 2)", done.weaver(0, 2), 4);
        Check.same("weaver(1, 2)", done.weaver(1, 2), 60);
        Check.same("count(5)", done.count(5), 120);
    }

    /** "as many knots as the speed" of each, in one hour */
    private static void passAsManyAsTheSpeed() {
        for (int left = 1; left <= 6; left++) {
            for (int right = 1; right <= 6; right++) {
                KnotRugs r = new KnotRugs();
                r.setSpeed(0, left);
                r.setSpeed(1, right);
                r.tell(0, 1, 60);
                r.tell(1, 2, 60);
                Check.same("pass(1)", r.pass(1), left + right);
                Check.same("weaver(0, 3)", r.weaver(0, 3), left);
                Check.same("weaver(1, 3)", r.weaver(1, 3), right);
                Check.same("pass(2)", r.pass(2), 2 * (left + right));
                Check.same("wool(1)", r.wool(1), 30 - 3 * left);
                Check.same("wool(2)", r.wool(2), 30 - 3 * right);
                Check.same("count(0)", r.count(0), 3);
            }
        }
    }

    /** "the first run has a knot less, and is gone with none left": the hour goes on with the next. */
    private static void passTheLastKnotOfARun() {
        for (int w = 0; w < 2; w++) {
            KnotRugs r = new KnotRugs();
            r.setSpeed(w, 6);
            for (int colour = 0; colour < 8; colour++) {
                r.tell(w, colour, 1);
            }
            Check.same("pass(1) with runs of one knot", r.pass(1), 6);
            for (int i = 0; i < 6; i++) {
                Check.same("the knot " + i, r.cell(w == 0 ? i : 11 - i, 0, 0), i);
            }
            Check.same("weaver(" + w + ", 1)", r.weaver(w, 1), 2);
            Check.same("run(" + w + ", 0, 0)", r.run(w, 0, 0), 6);
            Check.same("pass(1), the runs end within the hour", r.pass(1), 2);
            Check.same("weaver(" + w + ", 1)", r.weaver(w, 1), 0);
            r.tell(w, 5, 6);
            r.tell(w, 6, 1);
            Check.same("pass(1), the run ends with the hour", r.pass(1), 6);
            Check.same("weaver(" + w + ", 1)", r.weaver(w, 1), 1);
            Check.same("run(" + w + ", 0, 0)", r.run(w, 0, 0), 6);
            KnotRugs s = new KnotRugs();
            s.setSpeed(w, 5);
            s.tell(w, 5, 6);
            s.tell(w, 6, 1);
            s.pass(1);
            Check.same("run(" + w + ", 0, 1), one knot is left", s.run(w, 0, 1), 1);
            Check.same("weaver(" + w + ", 1)", s.weaver(w, 1), 2);
        }
    }

    /** "and cells of the own half without a knot": with each speed, and each number of cells. */
    private static void passTheLastCell() {
        for (int w = 0; w < 2; w++) {
            for (int cells = 1; cells <= 7; cells++) {
                for (int speed = 1; speed <= 6; speed++) {
                    KnotRugs r = new KnotRugs();
                    knot(r, w, 1, 60 - cells);
                    r.setSpeed(w, speed);
                    r.tell(w, 2, 60);
                    int due = Math.min(cells, speed);
                    Check.same("pass(1) with " + cells + " cells, speed " + speed, r.pass(1), due);
                    Check.same("weaver(" + w + ", 2)", r.weaver(w, 2), 60 - due);
                    Check.same("weaver(" + w + ", 3)", r.weaver(w, 3), 60 - cells + due);
                    Check.same("pass(60)", r.pass(60), cells - due);
                    Check.same("weaver(" + w + ", 2), done", r.weaver(w, 2), 60 - cells);
                }
            }
        }
    }

    /** The last knot of a run and the last cell of a half inside one hour, in either order. */
    private static void passTheLastKnotAndTheLastCell() {
        for (int w = 0; w < 2; w++) {
            for (int knots = 1; knots <= 5; knots++) {
                KnotRugs r = new KnotRugs();
                knot(r, w, 1, 57);
                r.setSpeed(w, 6);
                r.tell(w, 2, knots);
                r.tell(w, 3, 4);
                String when = " with a run of " + knots;
                Check.same("pass(1), three cells" + when, r.pass(1), 3);
                Check.same("weaver(" + w + ", 1)" + when, r.weaver(w, 1), knots <= 3 ? 1 : 2);
                Check.same("run(" + w + ", 0, 0)" + when, r.run(w, 0, 0), knots <= 3 ? 3 : 2);
                Check.same("run(" + w + ", 0, 1)" + when, r.run(w, 0, 1), knots <= 3 ? knots + 1 : knots - 3);
                Check.same("weaver(" + w + ", 5)" + when, r.weaver(w, 5), -1);
                int last = w == 0 ? 5 : 6;
                Check.same("the last knot" + when, r.cell(last, 9, 0), knots < 3 ? 3 : 2);
                Check.same("done(" + w + ")" + when, r.done(w), 0);
            }
        }
    }

    /** "if its basket is empty, of the next colour whose basket is not (behind the colour 7 comes 0)" */
    private static void passEachEmptyBasket() {
        for (int colour = 0; colour < 8; colour++) {
            int next = colour == 7 ? 0 : colour + 1;
            KnotRugs r = new KnotRugs();
            r.setSpeed(0, 4);
            r.tell(0, colour, 33);
            Check.same("pass(7)", r.pass(7), 28);
            Check.same("wool(" + colour + ")", r.wool(colour), 2);
            Check.same("pass(1), the basket runs empty inside the hour", r.pass(1), 4);
            Check.same("wool(" + colour + ")", r.wool(colour), 0);
            Check.same("wool(" + next + ")", r.wool(next), 28);
            Check.same("the last knot of the basket", r.cell(5, 4, 0), colour);
            Check.same("the first knot of the next", r.cell(0, 5, 0), next);
            Check.same("weaver(0, 6)", r.weaver(0, 6), 2);
            Check.same("run(0, 0, 0), as it was told", r.run(0, 0, 0), colour);
            Check.same("run(0, 0, 1), it has a knot less", r.run(0, 0, 1), 1);
            Check.same("count(5)", r.count(5), 208);
        }
    }

    /** The next that is not empty, behind one, two and three empty ones, around 7. */
    private static void passOverEmptyBaskets() {
        for (int first = 0; first < 8; first++) {
            KnotRugs r = new KnotRugs();
            for (int i = 0; i < 3; i++) {
                knot(r, 0, (first + i) % 8, 15);
                knot(r, 1, (first + i) % 8, 15);
                knot(r, 0, first, 1);
                int due = (first + i + 1) % 8;
                Check.same("wool(" + due + ")", r.wool(due), 29);
                int made = r.weaver(0, 3) - 1;
                Check.same("the knot behind " + (i + 1) + " empty baskets", r.cell(made % 6, made / 6, 0), due);
                r.unpick(0, 1);
                Check.same("count(6)", r.count(6), i + 1);
            }
            Check.same("weaver(0, 6)", r.weaver(0, 6), 3);
            knot(r, 1, (first + 1) % 8, 1);
            Check.same("from the second empty one on", r.wool((first + 3) % 8), 29);
            knot(r, 1, (first + 4) % 8, 1);
            Check.same("another colour that is there", r.wool((first + 4) % 8), 29);
            Check.same("the one before is not asked", r.wool((first + 7) % 8), 30);
        }
    }

    /** Each knot asks anew for the colour that was told. */
    private static void passABasketThatIsFilledAgain() {
        KnotRugs r = new KnotRugs();
        knot(r, 0, 7, 30);
        r.tell(0, 7, 6);
        r.pass(2);
        Check.same("cell(1, 5, 0)", r.cell(1, 5, 0), 0);
        r.bring(7, 1);
        r.pass(2);
        Check.same("cell(2, 5, 0), brought", r.cell(2, 5, 0), 7);
        Check.same("cell(3, 5, 0), empty again", r.cell(3, 5, 0), 0);
        Check.same("weaver(0, 6)", r.weaver(0, 6), 3);
        r.unpick(0, 2);
        r.pass(2);
        Check.same("cell(2, 5, 0), unpicked wool", r.cell(2, 5, 0), 7);
        Check.same("cell(3, 5, 0), empty again", r.cell(3, 5, 0), 0);
        Check.same("weaver(0, 6)", r.weaver(0, 6), 4);
    }

    /** "weaver by weaver": what weaver 0 leaves in an hour is there for weaver 1, in each hour anew. */
    private static void passBothAtOneBasket() {
        for (int left = 0; left <= 8; left++) {
            KnotRugs r = new KnotRugs();
            r.bring(4, 30);
            if (left < 8) {
                knot(r, 0, 4, 30);
                knot(r, 1, 4, 30 - left);
            } else {
                knot(r, 0, 4, 29);
                knot(r, 1, 4, 23);
            }
            r.setSpeed(0, 3);
            r.setSpeed(1, 4);
            r.tell(0, 4, 9);
            r.tell(1, 4, 9);
            Check.same("wool(4)", r.wool(4), left);
            Check.same("pass(1)", r.pass(1), 7);
            String when = " with wool for " + left;
            Check.same("weaver(0, 6)" + when, r.weaver(0, 6), Math.max(0, 3 - left));
            Check.same("weaver(1, 6)" + when, r.weaver(1, 6), Math.min(4, Math.max(0, 7 - left)));
            Check.same("wool(4)" + when, r.wool(4), Math.max(0, left - 7));
            Check.same("wool(5)" + when, r.wool(5), 30 - Math.max(0, 7 - left));
        }
        KnotRugs r = new KnotRugs();
        knot(r, 0, 2, 27);
        r.tell(0, 2, 5);
        r.tell(1, 2, 5);
        Check.same("pass(2), by turns", r.pass(2), 4);
        Check.same("weaver(0, 6), 1st and 3rd of three", r.weaver(0, 6), 0);
        Check.same("weaver(1, 6), 2nd of three", r.weaver(1, 6), 1);
    }

    private static void passRefused() {
        Check.outsideIsRefused(ARGUMENT, "pass(?)", 1, 60, (r, n) -> r.pass(n));
    }

    /** "0 if so now": no runs, or no cell without a knot, or neither. */
    private static void doneAtOnce() {
        for (int w = 0; w < 2; w++) {
            KnotRugs r = new KnotRugs();
            Check.same("done(" + w + "), no runs", r.done(w), 0);
            r.tell(w, 1, 1);
            Check.same("done(" + w + "), one knot", r.done(w), 1);
            Check.same("done of the other", r.done(1 - w), 0);
            r.hush(w);
            Check.same("done(" + w + "), hushed", r.done(w), 0);
            knot(r, w, 1, 60);
            Check.same("done(" + w + "), neither", r.done(w), 0);
            r.tell(w, 1, 60);
            Check.same("done(" + w + "), no cell", r.done(w), 0);
            r.unpick(w, 1);
            Check.same("done(" + w + "), a cell", r.done(w), 1);
        }
    }

    /** "behind how many hours this one has no runs": an hour that is begun counts. */
    private static void doneRunsOut() {
        for (int w = 0; w < 2; w++) {
            for (int speed = 1; speed <= 6; speed++) {
                for (int knots = 1; knots <= 60; knots++) {
                    KnotRugs r = new KnotRugs();
                    r.setSpeed(w, speed);
                    r.tell(w, 2, knots);
                    r.tell(1 - w, 2, 60);
                    Check.same("done(" + w + ") with " + knots + ", speed " + speed, r.done(w),
                            (knots + speed - 1) / speed);
                }
            }
        }
    }

    /** "or no cell without a knot": the cells end before the runs. */
    private static void doneNoCell() {
        for (int w = 0; w < 2; w++) {
            for (int made = 1; made <= 60; made++) {
                KnotRugs r = new KnotRugs();
                knot(r, w, 3, made);
                int left = 60 - made;
                r.tell(w, 1, 60);
                Check.same("done(" + w + ") with " + left + " cells", r.done(w), left);
                r.setSpeed(w, 6);
                Check.same("done(" + w + ") with " + left + " cells, speed 6", r.done(w), (left + 5) / 6);
                if (left > 0) {
                    r.hush(w);
                    r.tell(w, 1, left);
                    Check.same("done(" + w + "), cells and runs end at once", r.done(w), (left + 5) / 6);
                }
            }
        }
    }

    /** A half has 60 cells, so 60 hours are the most: 100, and -1 behind it, are out of reach. */
    private static void doneTheMost() {
        for (int w = 0; w < 2; w++) {
            KnotRugs r = new KnotRugs();
            for (int i = 0; i < 20; i++) {
                r.tell(w, i % 8, 60);
                Check.same("done(" + w + ")", r.done(w), 60);
            }
            r.pass(59);
            Check.same("done(" + w + "), an hour before", r.done(w), 1);
            r.pass(1);
            Check.same("done(" + w + "), then", r.done(w), 0);
            r.unpick(w, 60);
            Check.same("done(" + w + "), all over again", r.done(w), 60);
            KnotRugs s = new KnotRugs();
            for (int i = 0; i < 20; i++) {
                s.tell(w, 6, 3);
            }
            Check.same("done(" + w + "), 20 runs to the last cell", s.done(w), 60);
            s.hush(w);
            s.tell(w, 6, 59);
            Check.same("done(" + w + "), a run to the last cell but one", s.done(w), 59);
        }
    }

    /** Behind as many hours it is so, and an hour before it was not. */
    private static void doneWhenItIs() {
        for (Story story : Story.values()) {
            for (int w = 0; w < 2; w++) {
                KnotRugs r = story.lived();
                int hours = r.done(w);
                for (int left = hours; left > 0; left--) {
                    Check.same("done(" + w + ") in " + story, r.done(w), left);
                    boolean works = r.weaver(w, 1) > 0 && r.weaver(w, 3) < 60;
                    Check.same("works with " + left + " hours left", works ? 1 : 0, 1);
                    r.pass(1);
                }
                boolean rests = r.weaver(w, 1) == 0 || r.weaver(w, 3) == 60;
                Check.same("rests behind " + hours + " hours", rests ? 1 : 0, 1);
                Check.same("done(" + w + ") then", r.done(w), 0);
            }
        }
    }

    private static void doneRefused() {
        Check.outsideIsRefused(INDEX, "done(?)", 0, 1, (r, n) -> r.done(n));
    }

    /** What is foreseen comes: each number of hours from 1 to 60, in each story. */
    private static void foreseeAsItComes() {
        int[] counts = {1, 2, 4};
        for (Story story : Story.values()) {
            for (int hours = 1; hours <= 60; hours++) {
                KnotRugs r = story.lived();
                int[] told = {r.foresee(hours, 0), r.foresee(hours, 1), r.foresee(hours, 2)};
                r.pass(hours);
                for (int what = 0; what < 3; what++) {
                    Check.same("foresee(" + hours + ", " + what + ") in " + story, told[what], r.count(counts[what]));
                }
            }
        }
    }

    /** "knots then": those that are there now too, of both halves. */
    private static void foreseeBothHalves() {
        KnotRugs r = new KnotRugs();
        Check.same("foresee(1, 0), bare", r.foresee(1, 0), 0);
        Check.same("foresee(60, 0), bare", r.foresee(60, 0), 0);
        Check.same("foresee(60, 1), bare", r.foresee(60, 1), 0);
        Check.same("foresee(60, 2), bare", r.foresee(60, 2), 0);
        r.bring(1, 30);
        r.bring(2, 30);
        r.tell(0, 1, 60);
        r.tell(1, 2, 60);
        Check.same("foresee(1, 0)", r.foresee(1, 0), 2);
        Check.same("foresee(59, 0)", r.foresee(59, 0), 118);
        Check.same("foresee(60, 0)", r.foresee(60, 0), 120);
        Check.same("foresee(60, 1)", r.foresee(60, 1), 120);
        Check.same("foresee(5, 2)", r.foresee(5, 2), 0);
        Check.same("foresee(6, 2)", r.foresee(6, 2), 1);
        Check.same("foresee(11, 2)", r.foresee(11, 2), 1);
        Check.same("foresee(12, 2)", r.foresee(12, 2), 2);
        Check.same("foresee(60, 2)", r.foresee(60, 2), 10);
        r.pass(60);
        r.hush(0);
        r.hush(1);
        Check.same("foresee(60, 0), done", r.foresee(60, 0), 120);
        Check.same("foresee(1, 2), done", r.foresee(1, 2), 10);
    }

    /** One look ahead tells nothing of the one before, and a later plan counts. */
    private static void foreseeNoFurther() {
        KnotRugs r = new KnotRugs();
        r.tell(0, 1, 60);
        Check.same("foresee(60, 0)", r.foresee(60, 0), 60);
        Check.same("foresee(1, 0) behind it", r.foresee(1, 0), 1);
        Check.same("done(0) behind it", r.done(0), 60);
        Check.same("foresee(2, 1)", r.foresee(2, 1), 2);
        r.plan(0, 0, 1, 1, 1);
        Check.same("foresee(2, 1) by another plan", r.foresee(2, 1), 1);
        r.setSpeed(0, 2);
        Check.same("foresee(2, 0) with another speed", r.foresee(2, 0), 4);
        r.tell(1, 0, 3);
        Check.same("foresee(2, 0) with a run more", r.foresee(2, 0), 6);
        r.hush(0);
        Check.same("foresee(2, 0), hushed", r.foresee(2, 0), 2);
        Check.same("foresee(3, 0), hushed", r.foresee(3, 0), 3);
        Check.same("foresee(4, 0), hushed", r.foresee(4, 0), 3);
        Check.same("count(0)", r.count(0), 0);
        Check.same("count(1)", r.count(1), 0);
    }

    private static void foreseeRefused() {
        for (int what = 0; what < 3; what++) {
            int one = what;
            Check.outsideIsRefused(ARGUMENT, "foresee(?, " + what + ")", 1, 60, (r, n) -> r.foresee(n, one));
        }
        Check.outsideIsRefused(INDEX, "foresee(1, ?)", 0, 2, (r, n) -> r.foresee(1, n));
        Check.outsideIsRefused(INDEX, "foresee(60, ?)", 0, 2, (r, n) -> r.foresee(60, n));
    }

    /** Here the number that is too small or too great is named before the one that is no place. */
    private static void foreseeWhichExceptionFirst() {
        for (int what : Check.outside(0, 2)) {
            Check.outsideIsRefused(ARGUMENT, "foresee(?, " + what + ")", 1, 60, (r, n) -> r.foresee(n, what));
        }
    }

    /** "(nothing is changed)" */
    private static void nothingIsChanged() {
        for (int w = 0; w < 2; w++) {
            int who = w;
            Check.changesNothing("done(" + w + ")", r -> r.done(who));
        }
        for (int what = 0; what < 3; what++) {
            int one = what;
            for (int hours : new int[] {1, 7, 59, 60}) {
                Check.changesNothing("foresee(" + hours + ", " + what + ")", r -> r.foresee(hours, one));
            }
        }
        Check.changesNothing("share()", r -> r.share());
        Check.changesNothing("digest()", r -> r.digest());
    }

    /** "knots that are as in the plan, divided by all knots; 0 without knots" */
    private static void shares() {
        KnotRugs r = new KnotRugs();
        Check.sameDouble("share(), bare", r.share(), 0.0);
        r.plan(0, 0, 12, 10, 5);
        Check.sameDouble("share(), bare, another plan", r.share(), 0.0);
        for (int made = 1; made <= 60; made++) {
            knot(r, 0, made % 2 == 0 ? 5 : 4, 1);
            Check.sameDouble("share() of " + made, r.share(), (double) (made / 2) / made);
        }
        for (int made = 61; made <= 120; made++) {
            knot(r, 1, 6 + made % 2, 1);
            Check.sameDouble("share() of " + made, r.share(), 30.0 / made);
        }
        r.plan(0, 0, 12, 10, 3);
        Check.sameDouble("share(), full, none", r.share(), 0.0);
        r.plan(0, 0, 1, 1, 4);
        Check.sameDouble("share(), full, one", r.share(), 1.0 / 120);
        for (int x = 0; x < 12; x++) {
            r.plan(x, 0, 1, 10, (x < 6 ? 4 : 6) + x % 2);
        }
        Check.sameDouble("share(), full, all", r.share(), 1.0);
        r.plan(6, 9, 1, 1, 0);
        Check.sameDouble("share(), full, all but one", r.share(), 119.0 / 120);
        r.unpick(0, 60);
        r.unpick(1, 59);
        Check.sameDouble("share(), one, as in the plan", r.share(), 1.0);
        r.plan(11, 0, 1, 1, 0);
        Check.sameDouble("share(), one, off the plan", r.share(), 0.0);
        r.unpick(1, 1);
        Check.sameDouble("share(), bare again", r.share(), 0.0);
    }

    /** Numbers that were reckoned by hand, outside of the program: they wrap around often. */
    private static void digestsWritten() {
        KnotRugs r = new KnotRugs();
        Check.same("digest(), bare", r.digest(), -7651292783695138518L);
        Check.same("digest() again", r.digest(), -7651292783695138518L);
        r.tell(0, 3, 5);
        r.tell(0, 7, 60);
        r.tell(1, 2, 1);
        Check.same("digest(), both with runs", r.digest(), 499881447039689043L);
        r.hush(0);
        r.hush(1);
        Check.same("digest(), bare again", r.digest(), -7651292783695138518L);
        r.plan(11, 9, 1, 1, 7);
        r.bring(7, 200);
        r.setSpeed(1, 6);
        r.tell(0, 0, 2);
        r.pass(2);
        r.unpick(0, 1);
        Check.same("digest(), used", r.digest(), -6444380311036575191L);
    }

    /** From what the other calls tell, in the order of the document. */
    private static void digestsFromTheFace() {
        for (Story story : Story.values()) {
            KnotRugs r = story.lived();
            long d = 983;
            for (int what = 0; what <= 7; what++) {
                d = d * 31 + r.count(what);
            }
            for (int cell = 0; cell < 120; cell++) {
                d = d * 31 + r.cell(cell % 12, cell / 12, 0);
                d = d * 31 + r.cell(cell % 12, cell / 12, 1);
            }
            for (int w = 0; w < 2; w++) {
                for (int what = 0; what <= 6; what++) {
                    d = d * 31 + r.weaver(w, what);
                }
                int told = r.weaver(w, 1);
                for (int i = 0; i < told; i++) {
                    d = d * 31 + r.run(w, i, 0);
                    d = d * 31 + r.run(w, i, 1);
                }
            }
            for (int colour = 0; colour < 8; colour++) {
                d = d * 31 + r.wool(colour);
            }
            Check.same("digest() in " + story, r.digest(), d);
        }
    }

    /** Two objects whose answers are equal have one digest, whatever way led there. */
    private static void digestsOfEqualStates() {
        KnotRugs a = new KnotRugs();
        KnotRugs b = new KnotRugs();
        a.plan(0, 0, 12, 10, 3);
        for (int y = 9; y >= 0; y--) {
            b.plan(0, y, 12, 1, 7);
            b.plan(0, y, 12, 1, 3);
        }
        Check.same("digest(), the plan in parts", a.digest(), b.digest());
        a.bring(1, 100);
        a.bring(1, 100);
        b.bring(1, 200);
        Check.same("digest(), full in two ways", a.digest(), b.digest());
        a.tell(0, 4, 2);
        a.tell(1, 5, 3);
        b.tell(1, 0, 60);
        b.hush(1);
        b.tell(1, 5, 3);
        b.tell(0, 4, 2);
        Check.same("digest(), told in another order", a.digest(), b.digest());
        a.pass(3);
        b.foresee(60, 1);
        b.pass(1);
        b.done(1);
        b.pass(2);
        Check.same("digest(), passed in two ways", a.digest(), b.digest());
        a.unpick(1, 3);
        b.unpick(1, 1);
        b.unpick(1, 2);
        Check.same("digest(), unpicked in two ways", a.digest(), b.digest());
        knot(a, 0, 6, 5);
        a.unpick(0, 5);
        knot(b, 0, 2, 4);
        knot(b, 0, 7, 1);
        b.unpick(0, 5);
        Check.same("digest(), of knots that are gone", a.digest(), b.digest());
        a.setSpeed(0, 5);
        b.setSpeed(0, 6);
        b.setSpeed(0, 5);
        Check.same("digest(), the speed in two ways", a.digest(), b.digest());
        Check.sameText("equal states", View.difference(View.of(a), View.of(b)), "");
    }

    /** The numbers stand in an order: the same ones at other places are another digest. */
    private static void digestsOfOtherStates() {
        KnotRugs a = new KnotRugs();
        KnotRugs b = new KnotRugs();
        a.plan(0, 0, 1, 1, 5);
        b.plan(1, 0, 1, 1, 5);
        other("another cell", a, b);
        b.plan(0, 0, 2, 1, 5);
        b.plan(1, 0, 1, 1, 0);
        Check.same("digest(), the same cell", a.digest(), b.digest());
        a.tell(0, 1, 2);
        b.tell(0, 2, 1);
        other("colour and knots", a, b);
        a.hush(0);
        b.hush(0);
        a.tell(0, 1, 2);
        b.tell(1, 1, 2);
        other("the other weaver", a, b);
        a.hush(0);
        b.hush(1);
        a.bring(0, 1);
        b.bring(1, 1);
        other("another basket", a, b);
        b.bring(0, 1);
        a.bring(1, 1);
        Check.same("digest(), the same baskets", a.digest(), b.digest());
        a.setSpeed(0, 2);
        b.setSpeed(1, 2);
        other("the other's speed", a, b);
        b.setSpeed(0, 2);
        a.setSpeed(1, 2);
        a.pass(1);
        other("the hour", a, b);
    }

    private static void other(String what, KnotRugs a, KnotRugs b) {
        Check.same(what + " makes another digest", a.digest() == b.digest() ? 1 : 0, 0);
    }
}
