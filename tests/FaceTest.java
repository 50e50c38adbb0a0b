import java.lang.reflect.Constructor;
import java.lang.reflect.Field;
import java.lang.reflect.Method;
import java.lang.reflect.Modifier;
import java.util.Arrays;
import java.util.Map;
import java.util.Set;
import java.util.TreeMap;
import java.util.TreeSet;

/** The public face: its constants, its constructor, its methods with their exceptions, and nothing else. */
final class FaceTest {
    private static final String I = "IndexOutOfBoundsException";
    private static final String A = "IllegalArgumentException";
    private static final String S = "IllegalStateException";
    private static final String[] METHODS = {
        "int open(int,int,int) " + I + " " + A + " " + S,
        "int close(int) " + I + " " + S,
        "int ping(int) " + I + " " + S,
        "boolean move(int,int) " + I + " " + S,
        "int sync(int) " + I + " " + S,
        "int follow(int,int) " + I + " " + A,
        "int pass(int) " + A,
        "int lease(int) " + A + " " + S,
        "int renew(int) " + I + " " + S,
        "int make(int,int,int,boolean,int,int,int) " + I + " " + A + " " + S,
        "int set(int,int,int,int) " + I + " " + A + " " + S,
        "int delete(int,int,int) " + I + " " + S,
        "int rights(int,int,int,int,boolean) " + I + " " + A + " " + S,
        "int check(int,int,int) " + I + " " + S,
        "void gather(int) " + I + " " + S,
        "int done(int) " + I + " " + S,
        "int answer(int,int) " + I,
        "void lose(boolean)",
        "int quota(int,int) " + A,
        "int read(int,int,int) " + I + " " + A + " " + S,
        "int child(int,int,int) " + I + " " + S,
        "int watch(int,int,int) " + I + " " + A + " " + S,
        "int hear(int) " + I + " " + S,
        "int want(int,int,boolean) " + I + " " + S,
        "int has(int,int) " + I + " " + S,
        "int giveUp(int,int) " + I + " " + S,
        "int believers(int)",
        "boolean isOpen(int,int,int) " + I + " " + A + " " + S,
        "int takeFirst(int,int) " + I + " " + S,
        "boolean store(int,int) " + A,
        "int stored()",
        "int valueAt(int,int) " + A + " " + S,
        "int changedAt(int,int,int) " + I + " " + A + " " + S,
        "int compact(int) " + A,
        "int snapshot()",
        "int restore() " + S,
        "int changes()",
    };

    private FaceTest() {
    }

    private static Map<String, Integer> constants() {
        Map<String, Integer> due = new TreeMap<>();
        due.put("NONE", -100);
        due.put("ANY", -1);
        String[] kinds = {"PLAIN", "OF_SESSION", "OF_LEASE", "CONTAINER"};
        for (int i = 0; i < kinds.length; i++) {
            due.put(kinds[i], i);
        }
        String[] others = {"NO_NODE", "NO_RIGHT", "BAD_VERSION", "EXISTS", "NO_CHILDREN", "NOT_EMPTY", "QUOTA",
            "FULL", "LOST", "SKIPPED", "GATHERED"};
        for (int i = 0; i < others.length; i++) {
            due.put(others[i], -1 - i);
        }
        String[] told = {"VALUE", "CHILDREN", "BRANCH", "MADE", "SET", "GONE"};
        for (int i = 0; i < told.length; i++) {
            due.put(told[i], i % 3);
        }
        return due;
    }

    private static void looksAtConstants() throws IllegalAccessException {
        Map<String, Integer> got = new TreeMap<>();
        for (Field field : Leasehall.class.getDeclaredFields()) {
            if (!Modifier.isPrivate(field.getModifiers())) {
                int modifiers = Modifier.PUBLIC | Modifier.STATIC | Modifier.FINAL;
                Check.is(field.getName() + "'s modifiers", modifiers, field.getModifiers());
                got.put(field.getName(), field.getInt(null));
            }
        }
        Check.is("constants " + got, true, got.equals(constants()));
    }

    private static String told(Method method) {
        StringBuilder text = new StringBuilder();
        text.append(method.getReturnType().getName()).append(' ').append(method.getName()).append('(');
        for (int i = 0; i < method.getParameterCount(); i++) {
            text.append(i > 0 ? "," : "").append(method.getParameterTypes()[i].getName());
        }
        text.append(')');
        for (Class<?> thrown : method.getExceptionTypes()) {
            text.append(' ').append(thrown.getSimpleName());
        }
        return text.toString();
    }

    private static void looksAtMethods() {
        Set<String> got = new TreeSet<>();
        Set<String> publicNames = new TreeSet<>();
        for (Method method : Leasehall.class.getDeclaredMethods()) {
            if (!Modifier.isPrivate(method.getModifiers())) {
                Check.is(method.getName() + " is public alone", Modifier.PUBLIC, method.getModifiers());
                got.add(told(method));
                publicNames.add(method.getName());
            }
        }
        Set<String> due = new TreeSet<>(Arrays.asList(METHODS));
        Set<String> missing = new TreeSet<>(due);
        missing.removeAll(got);
        Set<String> surplus = new TreeSet<>(got);
        surplus.removeAll(due);
        Check.is("methods missing " + missing, 0, missing.size());
        Check.is("methods too many " + surplus, 0, surplus.size());
        for (Method method : Leasehall.class.getDeclaredMethods()) {
            if (Modifier.isPrivate(method.getModifiers())) {
                Check.is(method.getName() + " is no public name", false, publicNames.contains(method.getName()));
            }
        }
    }

    private static void looksAtClass() {
        Check.is("the class", Modifier.PUBLIC | Modifier.FINAL, Leasehall.class.getModifiers());
        Constructor<?>[] constructors = Leasehall.class.getDeclaredConstructors();
        Check.is("constructors", 1, constructors.length);
        Check.is("the constructor is public", Modifier.PUBLIC, constructors[0].getModifiers());
        Check.is("the constructor's parameters", 0, constructors[0].getParameterCount());
        for (Class<?> inside : Leasehall.class.getDeclaredClasses()) {
            int modifiers = inside.getModifiers();
            Check.is(inside + " is static", true, Modifier.isStatic(modifiers));
            Check.is(inside + " is hidden", false, Modifier.isPublic(modifiers) || Modifier.isProtected(modifiers));
        }
    }

    public static void main(String[] args) throws IllegalAccessException {
        looksAtClass();
        looksAtConstants();
        looksAtMethods();
        Check.end("the face");
    }
}
