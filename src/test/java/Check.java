/** What all tests use: they tell each answer that is not due, and end with 1 if there was one. */
final class Check {
    private static int wrong = 0;

    private Check() {
    }

    static void same(String call, long got, long due) {
        if (got != due) {
            wrong++;
            System.out.println(call + " answered " + got + ", due is " + due);
        }
    }

    static void sameDouble(String call, double got, double due) {
        if (Double.doubleToLongBits(got) != Double.doubleToLongBits(due)) {
            wrong++;
            System.out.println(call + " answered " + got + ", due is " + due);
        }
    }

    static void sameText(String what, String got, String due) {
        if (!got.equals(due)) {
            wrong++;
            System.out.println(what + " is " + got + ", due is " + due);
        }
    }

    /** The class itself, not one below it, is due: the machine's own exceptions stand below. */
    static void refused(KnotRugs rugs, Class<? extends RuntimeException> due, String call, Runnable calling) {
        long before = rugs.digest();
        Class<?> got = null;
        try {
            calling.run();
        } catch (RuntimeException e) {
            got = e.getClass();
        }
        if (got != due) {
            wrong++;
            System.out.println(call + " throws " + got + ", due is " + due);
        }
        same("digest() behind the refused " + call, rugs.digest(), before);
    }

    static void noIndex(KnotRugs rugs, String call, Runnable calling) {
        refused(rugs, IndexOutOfBoundsException.class, call, calling);
    }

    static void noArgument(KnotRugs rugs, String call, Runnable calling) {
        refused(rugs, IllegalArgumentException.class, call, calling);
    }

    static void noState(KnotRugs rugs, String call, Runnable calling) {
        refused(rugs, IllegalStateException.class, call, calling);
    }

    /** Numbers that lie outside of least to most: the nearest ones, and the farthest. */
    static int[] outside(int least, int most) {
        return new int[] {least - 1, most + 1, least - 100, most + 100, Integer.MIN_VALUE, Integer.MAX_VALUE};
    }

    static void end() {
        if (wrong != 0) {
            System.out.println(wrong + " answers are not as due");
            System.exit(1);
        }
    }
}
