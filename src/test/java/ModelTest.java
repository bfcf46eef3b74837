import java.util.ArrayList;
import java.util.List;

/** Long runs of calls, right and wrong ones, each answered by the program and by the model. */
public final class ModelTest {
    private static final int RUNS = 800;
    /** The document says nothing of what an object answers behind so many calls. */
    private static final int CALLS = 512;
    private static final String INDEX = "IndexOutOfBoundsException";
    private static final String ARGUMENT = "IllegalArgumentException";
    private static final String STATE = "IllegalStateException";
    /** A few calls change much: the others are drawn from all twenty alike. */
    private static final int[] BUSY = {0, 1, 2, 3, 3, 3, 5, 15, 15};

    private final KnotRugs rugs = new KnotRugs();
    private final Model model = new Model();
    private final List<String> calls = new ArrayList<>();
    /** Each call is followed by digest(), which takes half of the calls, or the last one alone. */
    private final boolean closely;
    private long seed;

    private ModelTest(long seed, boolean closely) {
        this.seed = seed;
        this.closely = closely;
    }

    public static void main(String[] args) {
        for (int run = 1; run <= RUNS; run++) {
            if (!new ModelTest(run * 7919L, run % 2 == 0).allAlike()) {
                System.exit(1);
            }
        }
    }

    private int draw(int least, int most) {
        seed = seed * 6364136223846793005L + 1442695040888963407L;
        return least + (int) Long.remainderUnsigned(seed >>> 33, most - least + 1L);
    }

    /** Mostly from least to most, now and then beside it or far away. */
    private int number(int least, int most) {
        int kind = draw(0, 99);
        if (kind < 92) {
            return draw(least, most);
        }
        int[] odd = {least - 1, most + 1, Integer.MIN_VALUE, Integer.MAX_VALUE, -7 - kind, 300 + kind};
        return odd[draw(0, odd.length - 1)];
    }

    private boolean allAlike() {
        int drawn = closely ? CALLS / 2 : CALLS - 1;
        for (int i = 1; i <= drawn; i++) {
            int which = draw(0, 2) == 0 ? draw(0, 19) : BUSY[draw(0, BUSY.length - 1)];
            int[] a = arguments(which);
            String due = due(which, a);
            String got = got(which, a);
            calls.add(name(which, a));
            boolean states = closely || i == drawn;
            if (!due.equals(got) || states && rugs.digest() != model.digest()) {
                System.out.println(String.join("\n", calls));
                System.out.println("answered " + got + ", due is " + due
                        + ", or the digests are not alike");
                return false;
            }
        }
        return true;
    }

    private int[] arguments(int which) {
        switch (which) {
            case 0: {
                int x = number(0, 11);
                int y = number(0, 9);
                int wide = number(1, Math.max(1, Math.min(12, 12 - x)));
                int high = number(1, Math.max(1, Math.min(10, 10 - y)));
                return new int[] {x, y, wide, high, number(0, 7)};
            }
            case 1: return new int[] {number(0, 7), number(1, draw(0, 2) == 0 ? 200 : 9)};
            case 2: return new int[] {number(0, 1), number(1, 6)};
            case 3: return new int[] {number(0, 1), number(0, 7), number(1, draw(0, 3) == 0 ? 60 : 8)};
            case 5: return new int[] {number(0, 1), number(1, draw(0, 3) == 0 ? 60 : 6)};
            case 6: return new int[] {number(0, 11), number(0, 9), number(0, 1)};
            case 7: return new int[] {number(0, 1), number(0, 11), number(0, 9)};
            case 8: return new int[] {number(0, 1), number(0, 6)};
            case 9: return new int[] {number(0, 1), number(0, 20), number(0, 1)};
            case 10: return new int[] {number(0, 7)};
            case 11: return new int[] {number(0, 7)};
            case 15: return new int[] {number(1, draw(0, 3) == 0 ? 60 : 4)};
            case 17: return new int[] {number(1, draw(0, 1) == 0 ? 60 : 6), number(0, 2)};
            case 18:
            case 19: return new int[] {};
            default: return new int[] {number(0, 1)};
        }
    }

    private static boolean out(int value, int least, int most) {
        return value < least || value > most;
    }

    /** The name of the exception that is due, or the empty text. */
    private String refusal(int which, int[] a) {
        switch (which) {
            case 0:
                if (out(a[0], 0, 11) || out(a[1], 0, 9)) {
                    return INDEX;
                }
                return out(a[2], 1, 12 - a[0]) || out(a[3], 1, 10 - a[1]) || out(a[4], 0, 7) ? ARGUMENT : "";
            case 1: return out(a[0], 0, 7) || out(a[1], 1, 200) ? ARGUMENT : "";
            case 2: return out(a[0], 0, 1) ? INDEX : out(a[1], 1, 6) ? ARGUMENT : "";
            case 3:
                if (out(a[0], 0, 1)) {
                    return INDEX;
                }
                return out(a[1], 0, 7) || out(a[2], 1, 60) ? ARGUMENT : model.weaver(a[0], 1) == 20 ? STATE : "";
            case 5:
                if (out(a[0], 0, 1)) {
                    return INDEX;
                }
                return out(a[1], 1, 60) ? ARGUMENT : model.weaver(a[0], 3) < a[1] ? STATE : "";
            case 6: return out(a[0], 0, 11) || out(a[1], 0, 9) || out(a[2], 0, 1) ? INDEX : "";
            case 7: return out(a[0], 0, 1) || out(a[1], 0, 11) || out(a[2], 0, 9) ? INDEX : "";
            case 8: return out(a[0], 0, 1) || out(a[1], 0, 6) ? INDEX : "";
            case 9:
                if (out(a[0], 0, 1)) {
                    return INDEX;
                }
                return out(a[1], 0, model.weaver(a[0], 1) - 1) || out(a[2], 0, 1) ? INDEX : "";
            case 10: return out(a[0], 0, 7) ? INDEX : "";
            case 11: return out(a[0], 0, 7) ? ARGUMENT : "";
            case 15: return out(a[0], 1, 60) ? ARGUMENT : "";
            case 17: return out(a[0], 1, 60) ? ARGUMENT : out(a[1], 0, 2) ? INDEX : "";
            case 18:
            case 19: return "";
            default: return out(a[0], 0, 1) ? INDEX : "";
        }
    }

    private String due(int which, int[] a) {
        String refusal = refusal(which, a);
        if (!refusal.isEmpty()) {
            return "java.lang." + refusal;
        }
        switch (which) {
            case 0: return "" + model.plan(a[0], a[1], a[2], a[3], a[4]);
            case 1: return "" + model.bring(a[0], a[1]);
            case 2: return "" + model.setSpeed(a[0], a[1]);
            case 3: return "" + model.tell(a[0], a[1], a[2]);
            case 4: return "" + model.hush(a[0]);
            case 5: return "" + model.unpick(a[0], a[1]);
            case 6: return "" + (a[2] == 0 ? model.knot[a[0]][a[1]] : model.plan[a[0]][a[1]]);
            case 7: return "" + model.sees(a[0], a[1], a[2]);
            case 8: return "" + model.weaver(a[0], a[1]);
            case 9: return "" + model.run(a[0], a[1], a[2]);
            case 10: return "" + model.count(a[0]);
            case 11: return "" + model.wool[a[0]];
            case 12: return "" + model.advise(a[0]);
            case 13: return "" + model.runs(a[0]);
            case 14: return "" + model.mends(a[0]);
            case 15: return "" + model.pass(a[0]);
            case 16: return "" + model.done(a[0]);
            case 17: return "" + model.foresee(a[0], a[1]);
            case 18: return "" + model.share();
            default: return "" + model.digest();
        }
    }

    private String got(int which, int[] a) {
        try {
            return answer(which, a);
        } catch (Throwable e) {
            return e.getClass().getName();
        }
    }

    private String answer(int which, int[] a) {
        switch (which) {
            case 0: return "" + rugs.plan(a[0], a[1], a[2], a[3], a[4]);
            case 1: return "" + rugs.bring(a[0], a[1]);
            case 2: return "" + rugs.setSpeed(a[0], a[1]);
            case 3: return "" + rugs.tell(a[0], a[1], a[2]);
            case 4: return "" + rugs.hush(a[0]);
            case 5: return "" + rugs.unpick(a[0], a[1]);
            case 6: return "" + rugs.cell(a[0], a[1], a[2]);
            case 7: return "" + rugs.sees(a[0], a[1], a[2]);
            case 8: return "" + rugs.weaver(a[0], a[1]);
            case 9: return "" + rugs.run(a[0], a[1], a[2]);
            case 10: return "" + rugs.count(a[0]);
            case 11: return "" + rugs.wool(a[0]);
            case 12: return "" + rugs.advise(a[0]);
            case 13: return "" + rugs.runs(a[0]);
            case 14: return "" + rugs.mends(a[0]);
            case 15: return "" + rugs.pass(a[0]);
            case 16: return "" + rugs.done(a[0]);
            case 17: return "" + rugs.foresee(a[0], a[1]);
            case 18: return "" + rugs.share();
            default: return "" + rugs.digest();
        }
    }

    private static String name(int which, int[] a) {
        String[] names = {"plan", "bring", "setSpeed", "tell", "hush", "unpick", "cell", "sees", "weaver", "run",
            "count", "wool", "advise", "runs", "mends", "pass", "done", "foresee", "share", "digest"};
        StringBuilder text = new StringBuilder(names[which]).append('(');
        for (int i = 0; i < a.length; i++) {
            text.append(i == 0 ? "" : ", ").append(a[i]);
        }
        return text.append(')').toString();
    }
}
