/**
 * Lives of an object in which the edges are tried; each takes less than fifty of the 512 calls
 * for which the document says what an object answers.
 */
enum Story {
    /** Nothing has been called. */
    BARE {
        @Override
        void live(KnotRugs r) {
            r.count(0);
        }
    },
    /** Both work, not at the end of a row; both baskets 1 and 2 are used, some knots are off the plan. */
    MIDDLE {
        @Override
        void live(KnotRugs r) {
            r.plan(0, 0, 12, 10, 1);
            r.plan(3, 1, 6, 4, 5);
            r.bring(5, 33);
            r.setSpeed(0, 4);
            r.setSpeed(1, 3);
            r.tell(0, 1, 10);
            r.tell(0, 5, 8);
            r.tell(0, 2, 9);
            r.tell(1, 1, 20);
            r.tell(1, 7, 14);
            r.pass(5);
            r.unpick(0, 3);
            r.unpick(1, 1);
        }
    },
    /** Weaver 0 stands at the end of a row that is done, weaver 1 a knot before it. */
    SEAM {
        @Override
        void live(KnotRugs r) {
            r.plan(5, 0, 1, 10, 3);
            r.tell(0, 2, 12);
            r.tell(1, 3, 11);
            r.pass(12);
        }
    },
    /** Both have 20 runs, the first one of weaver 0 is begun. */
    TWENTY {
        @Override
        void live(KnotRugs r) {
            for (int i = 0; i < 20; i++) {
                r.tell(0, i % 8, 3);
                r.tell(1, 7 - i % 8, 60);
            }
            r.setSpeed(0, 2);
            r.pass(1);
        }
    },
    /** Both halves are done with runs left, and four baskets, 6, 7, 0 and 1, are empty. */
    DONE {
        @Override
        void live(KnotRugs r) {
            r.plan(2, 0, 8, 10, 6);
            r.setSpeed(0, 6);
            r.setSpeed(1, 6);
            r.tell(0, 6, 60);
            r.tell(0, 1, 4);
            r.tell(1, 6, 60);
            r.tell(1, 2, 60);
            r.pass(10);
        }
    },
    /** All baskets are full, and knots of the colours 0 and 7 are there. */
    FULL {
        @Override
        void live(KnotRugs r) {
            r.tell(0, 0, 9);
            r.tell(1, 7, 14);
            r.pass(10);
            for (int colour = 0; colour < 8; colour++) {
                r.bring(colour, 200);
            }
        }
    };

    abstract void live(KnotRugs r);

    /** A new object behind this life. */
    KnotRugs lived() {
        KnotRugs r = new KnotRugs();
        live(r);
        return r;
    }
}
