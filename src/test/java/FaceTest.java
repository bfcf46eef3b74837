import java.lang.reflect.Constructor;
import java.lang.reflect.Field;
import java.lang.reflect.Method;
import java.lang.reflect.Modifier;
import java.util.Arrays;
import java.util.TreeSet;

/** The face is the document's, and nothing else is to be seen from outside. */
public final class FaceTest {
    private static final String OUT = " throws IndexOutOfBoundsException";
    private static final String ILL = " throws IllegalArgumentException";
    private static final String BOTH = " throws IndexOutOfBoundsException,IllegalArgumentException";
    private static final String ALL = BOTH + ",IllegalStateException";

    private static final String[] FACE = {
        "public int plan(int,int,int,int,int)" + BOTH,
        "public int bring(int,int)" + ILL,
        "public int setSpeed(int,int)" + BOTH,
        "public int tell(int,int,int)" + ALL,
        "public int hush(int)" + OUT,
        "public int unpick(int,int)" + ALL,
        "public int cell(int,int,int)" + OUT,
        "public int sees(int,int,int)" + OUT,
        "public int weaver(int,int)" + OUT,
        "public int run(int,int,int)" + OUT,
        "public int count(int)" + OUT,
        "public int wool(int)" + ILL,
        "public int advise(int)" + OUT,
        "public int runs(int)" + OUT,
        "public int mends(int)" + OUT,
        "public int pass(int)" + ILL,
        "public int done(int)" + OUT,
        "public int foresee(int,int) throws IllegalArgumentException,IndexOutOfBoundsException",
        "public double share()",
        "public long digest()",
    };

    public static void main(String[] args) {
        Class<KnotRugs> type = KnotRugs.class;
        Check.sameText("the class", Modifier.toString(type.getModifiers()), "public final");
        TreeSet<String> got = new TreeSet<>();
        for (Method method : type.getDeclaredMethods()) {
            if (!Modifier.isPrivate(method.getModifiers()) && !method.isSynthetic()) {
                got.add(told(method));
            }
        }
        Check.sameText("the face", got.toString(), new TreeSet<>(Arrays.asList(FACE)).toString());
        int constructors = 0;
        for (Constructor<?> constructor : type.getDeclaredConstructors()) {
            if (!Modifier.isPrivate(constructor.getModifiers())) {
                constructors++;
                Check.sameText("the constructor", constructor.toString(), "public KnotRugs()");
            }
        }
        Check.same("constructors", constructors, 1);
        for (Field field : type.getDeclaredFields()) {
            Check.same(field + " is private", Modifier.isPrivate(field.getModifiers()) ? 1 : 0, 1);
        }
        namesOfPrivateMethods(type);
        Check.end();
    }

    private static void namesOfPrivateMethods(Class<?> type) {
        for (Method hidden : type.getDeclaredMethods()) {
            for (String line : FACE) {
                boolean bears = line.contains(" " + hidden.getName() + "(");
                if (bears && Modifier.isPrivate(hidden.getModifiers())) {
                    Check.sameText("a private method's name", hidden.getName(), "none of the face");
                }
            }
        }
    }

    private static String told(Method method) {
        return method.toString().replace("KnotRugs.", "").replace("java.lang.", "");
    }
}
