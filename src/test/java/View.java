/** What an object answers; a view takes 342 to 422 of its 512 calls. */
final class View {
    private static final int HOURS_TO_COME = 7;

    private View() {
    }

    /**
     * Nearly all that can be asked (sees() beside the seam alone), and the digest of some hours to come, so that a change that no answer
     * shows yet comes to light. It is the last that is asked of an object.
     */
    static String of(KnotRugs r) {
        StringBuilder text = new StringBuilder();
        for (int what = 0; what < 8; what++) {
            add(text, "count", what, r.count(what));
            add(text, "wool", what, r.wool(what));
        }
        for (int cell = 0; cell < 120; cell++) {
            add(text, "knot", cell, r.cell(cell % 12, cell / 12, 0));
            add(text, "plan", cell, r.cell(cell % 12, cell / 12, 1));
        }
        for (int w = 0; w < 2; w++) {
            addWeaver(text, r, w);
        }
        for (int what = 0; what < 3; what++) {
            add(text, "foresee(1)", what, r.foresee(1, what));
            add(text, "foresee(60)", what, r.foresee(60, what));
        }
        text.append("share ").append(r.share()).append('\n');
        add(text, "digest", 0, r.digest());
        for (int hour = 1; hour <= HOURS_TO_COME; hour++) {
            add(text, "pass", hour, r.pass(1));
            add(text, "digest behind the hour", hour, r.digest());
        }
        return text.toString();
    }

    private static void addWeaver(StringBuilder text, KnotRugs r, int w) {
        String who = "of weaver " + w;
        for (int what = 0; what < 7; what++) {
            add(text, who + " weaver", what, r.weaver(w, what));
        }
        int told = r.weaver(w, 1);
        for (int i = 0; i < told; i++) {
            add(text, who + " run", i, 100L * r.run(w, i, 0) + r.run(w, i, 1));
        }
        for (int y = 0; y < 10; y++) {
            add(text, who + " sees x 5 y", y, r.sees(w, 5, y));
            add(text, who + " sees x 6 y", y, r.sees(w, 6, y));
        }
        add(text, who + " advise", 0, r.advise(w));
        add(text, who + " runs", 0, r.runs(w));
        add(text, who + " mends", 0, r.mends(w));
        add(text, who + " done", 0, r.done(w));
    }

    private static void add(StringBuilder text, String name, int which, long answer) {
        text.append(name).append(' ').append(which).append(": ").append(answer).append('\n');
    }

    /** The first line in which two views are not alike; the empty text if they are. */
    static String difference(String before, String behind) {
        String[] a = before.split("\n");
        String[] b = behind.split("\n");
        for (int i = 0; i < a.length && i < b.length; i++) {
            if (!a[i].equals(b[i])) {
                return a[i] + " became " + b[i];
            }
        }
        return a.length == b.length ? "" : "as many answers as " + a.length + " became " + b.length;
    }
}
