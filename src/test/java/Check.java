import java.util.EnumMap;
import java.util.Map;
import java.util.function.Consumer;

/** What all tests use: they tell each answer that is not due, and end with 1 if there was one. */
final class Check {
    private static final Map<Story, String> VIEWS = new EnumMap<>(Story.class);
    private static int wrong = 0;

    private Check() {
    }

    static void same(String call, long got, long due) {
        if (got != due) {
            wrong++;
            System.out.println(call + " answered " + got + ", due is " + due);
        }
    }

    static void sameDouble(String call, double got, double due) {
        if (Double.doubleToLongBits(got) != Double.doubleToLongBits(due)) {
            wrong++;
            System.out.println(call + " answered " + got + ", due is " + due);
        }
    }

    static void sameText(String what, String got, String due) {
        if (!got.equals(due)) {
            wrong++;
            System.out.println(what + " is " + got + ", due is " + due);
        }
    }

    /** The class itself, not one below it, is due: the machine's own exceptions stand below. */
    static void refused(KnotRugs rugs, Class<? extends RuntimeException> due, String call, Runnable calling) {
        long before = rugs.digest();
        Class<?> got = null;
        try {
            calling.run();
        } catch (RuntimeException e) {
            got = e.getClass();
        }
        if (got != due) {
            wrong++;
            System.out.println(call + " throws " + got + ", due is " + due);
        }
        same("digest() behind the refused " + call, rugs.digest(), before);
    }

    static void noIndex(KnotRugs rugs, String call, Runnable calling) {
        refused(rugs, IndexOutOfBoundsException.class, call, calling);
    }

    static void noArgument(KnotRugs rugs, String call, Runnable calling) {
        refused(rugs, IllegalArgumentException.class, call, calling);
    }

    static void noState(KnotRugs rugs, String call, Runnable calling) {
        refused(rugs, IllegalStateException.class, call, calling);
    }

    /** In each story the call throws this, and nothing that can be asked is another behind it. */
    static void refusedAlways(Class<? extends RuntimeException> due, String call, Consumer<KnotRugs> calling) {
        for (Story story : Story.values()) {
            refusedIn(story, due, call, calling);
        }
    }

    static void refusedIn(Story story, Class<? extends RuntimeException> due, String call,
            Consumer<KnotRugs> calling) {
        KnotRugs r = story.lived();
        Class<?> got = null;
        try {
            calling.accept(r);
        } catch (RuntimeException e) {
            got = e.getClass();
        }
        if (got != due) {
            wrong++;
            System.out.println(call + " in " + story + " throws " + got + ", due is " + due);
        }
        sameView("behind the refused " + call + " in " + story, r, story);
    }

    /** In each story the call is taken, and nothing that can be asked is another behind it. */
    static void changesNothing(String call, Consumer<KnotRugs> calling) {
        for (Story story : Story.values()) {
            KnotRugs r = story.lived();
            calling.accept(r);
            sameView("behind " + call + " in " + story, r, story);
        }
    }

    private static void sameView(String when, KnotRugs r, Story story) {
        String before = VIEWS.computeIfAbsent(story, s -> View.of(s.lived()));
        String difference = View.difference(before, View.of(r));
        if (!difference.isEmpty()) {
            wrong++;
            System.out.println(when + " is changed: " + difference);
        }
    }

    /** In each story one number after the other outside of least to most throws this. */
    static void outsideIsRefused(Class<? extends RuntimeException> due, String call, int least, int most,
            Call calling) {
        for (int n : outside(least, most)) {
            refusedAlways(due, call.replace("?", Integer.toString(n)), r -> calling.with(r, n));
        }
    }

    /** A call of an object with one number. */
    interface Call {
        void with(KnotRugs r, int n);
    }

    /** Numbers that lie outside of least to most: the nearest ones, and the farthest. */
    static int[] outside(int least, int most) {
        return new int[] {least - 1, most + 1, least - 100, most + 100, Integer.MIN_VALUE, Integer.MAX_VALUE};
    }

    static void end() {
        if (wrong != 0) {
            System.out.println(wrong + " answers are not as due");
            System.exit(1);
        }
    }
}
