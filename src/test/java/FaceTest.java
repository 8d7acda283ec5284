import java.lang.reflect.Constructor;
import java.lang.reflect.Field;
import java.lang.reflect.Method;
import java.lang.reflect.Modifier;
import java.util.Set;
import java.util.TreeSet;

/** The class has the document's face and nothing else that can be seen from outside. */
public final class FaceTest {
    private static final String[] METHODS = {
        "int write(int,long)", "int wipe()", "int fault()", "int lay()", "int house(int,int)", "int up(long)",
        "int hands(int,long)", "long judge(long,int)", "int still(int)", "long together(int,long)",
        "long often(int,long,long)", "int longest(int)", "long street(int,long)", "int same(int)",
        "long harvest(int,long,long)", "int settled(int)", "int years(int,int)", "int wedding(int,int,int)",
        "int seen(long,int,boolean)", "int forget()", "int fits(int,boolean)", "int fire(int,int,long,int)",
        "int change(int,int)", "int wed(int,int)", "int settle()", "int keep()", "int back()", "int count(int)"};

    private static int wrong = 0;

    private static void same(String what, Object got, Object want) {
        if (!got.equals(want)) {
            wrong++;
            System.out.println(what + " is " + got + ", due is " + want);
        }
    }

    private static String sign(Method m) {
        StringBuilder s = new StringBuilder(m.getReturnType() + " " + m.getName() + "(");
        for (int k = 0; k < m.getParameterCount(); k++) {
            s.append(k > 0 ? "," : "").append(m.getParameterTypes()[k]);
        }
        return s + ")";
    }

    public static void main(String[] args) throws Exception {
        Class<?> c = OwnSunday.class;
        same("the class's modifiers", Modifier.toString(c.getModifiers()), "public final");
        Set<String> seen = new TreeSet<>();
        Set<String> names = new TreeSet<>();
        for (Method m : c.getDeclaredMethods()) {
            if (!Modifier.isPrivate(m.getModifiers())) {
                same(m.getName() + "'s modifiers", Modifier.toString(m.getModifiers()), "public");
                seen.add(sign(m));
                names.add(m.getName());
            }
        }
        same("the methods", seen, new TreeSet<>(Set.of(METHODS)));
        for (Method m : c.getDeclaredMethods()) {
            if (Modifier.isPrivate(m.getModifiers())) {
                same("a private method named as a public one: " + m.getName(), names.contains(m.getName()), false);
            }
        }
        same("how many constructors", c.getDeclaredConstructors().length, 1);
        Constructor<?> made = c.getDeclaredConstructors()[0];
        same("the constructor", Modifier.toString(made.getModifiers()) + made.getParameterCount(), "public0");
        Set<String> constants = new TreeSet<>();
        for (Field f : c.getDeclaredFields()) {
            if (!Modifier.isPrivate(f.getModifiers())) {
                constants.add(Modifier.toString(f.getModifiers()) + " " + f.getType() + " " + f.getName() + f.get(null));
            }
        }
        same("the constants", constants, new TreeSet<>(Set.of("public static final int BAD-1",
            "public static final int NO-2", "public static final int FULL-3", "public static final int NONE-4")));
        for (Class<?> inside : c.getDeclaredClasses()) {
            int m = inside.getModifiers();
            same(inside + " is static and not seen", Modifier.isStatic(m) && !Modifier.isPublic(m)
                && !Modifier.isProtected(m), true);
        }
        System.out.println(wrong == 0 ? "the face is as due" : wrong + " faults in the face");
        if (wrong != 0) {
            System.exit(1);
        }
    }
}
