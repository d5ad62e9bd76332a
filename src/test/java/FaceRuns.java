import java.lang.reflect.Constructor;
import java.lang.reflect.Field;
import java.lang.reflect.InvocationTargetException;
import java.lang.reflect.Method;
import java.lang.reflect.Modifier;
import java.nio.ByteBuffer;
import java.util.Arrays;
import java.util.Random;
import java.util.Set;
import java.util.TreeSet;

/**
 * The class has the face of the document and nothing else that can be seen from outside (rule 1);
 * each method throws what it tells, whatever its arguments are ("The public face").
 */
public final class FaceRuns {
    private static final String[] FACE = {
        "int feed(int,int,int,int,int)", "int text(int) IAE", "int fault()", "int told(int) IAE",
        "int partner(int,int) NSEE", "int cost(int,int) NSEE", "int fits(int,int) NSEE", "int way()",
        "int wayAt(int) NSEE", "int wayFrom(int,int) NSEE IAE", "int phases(int) IAE", "int phased(int) NSEE",
        "int most()", "int reached(int) NSEE", "int cover(int) NSEE", "int of(int,int,int) NSEE IAE",
        "int fit(int,int) NSEE", "int fitMany(int) IAE", "int lack(int) IAE", "int hall(int) IAE", "long many()",
        "int cheap(int) IAE", "int cheapest(int) NSEE", "int narrow()", "int more(int) IAE", "int fewest(int) IAE",
        "int chosen(int) IAE", "int rounds()", "int round(int,int) NSEE", "int add(int,int,int) NSEE IAE",
        "int drop(int,int) NSEE IAE", "int is(int,int,int) NSEE IAE", "int pair(int,int) NSEE IAE",
        "int part(int) NSEE IAE", "int weight(int,int) NSEE IAE", "int trade()", "int keep(int) IAE",
        "int settle(int) IAE", "int undo()", "long print()", "int status(int)"};

    private static final int[] ODD = {0, 0, 0, 1, 1, 2, 3, 4, 5, 7, 11, 12, 13, 15, 99, 100, 4095, 4096, -1, -2, -100,
        Integer.MAX_VALUE, Integer.MIN_VALUE, 538976288};

    private static int wrong = 0;

    public static void main(String[] args) throws Exception {
        Class<?> face = PairKeeper.class;
        int modifiers = face.getModifiers();
        due("public final class", Modifier.isPublic(modifiers) && Modifier.isFinal(modifiers) && face.getPackageName().isEmpty());
        Set<String> wanted = new TreeSet<>(Set.of(FACE));
        Set<String> names = new TreeSet<>();
        Set<String> found = new TreeSet<>();
        for (Method method : face.getDeclaredMethods()) {
            if (Modifier.isPublic(method.getModifiers())) {
                found.add(show(method));
                names.add(method.getName());
                due(method + " is no static", !Modifier.isStatic(method.getModifiers()));
            } else {
                due(method + " is private", Modifier.isPrivate(method.getModifiers()));
            }
        }
        due("methods " + found + " are " + wanted, found.equals(wanted));
        privateNames(face, names);
        for (Constructor<?> constructor : face.getDeclaredConstructors()) {
            due(constructor + " is public, without anything", Modifier.isPublic(constructor.getModifiers())
                && constructor.getParameterCount() == 0);
        }
        for (Field field : face.getDeclaredFields()) {
            boolean none = field.getName().equals("NONE") && field.getType() == int.class
                && Modifier.isStatic(field.getModifiers()) && Modifier.isFinal(field.getModifiers());
            due(field + " is private", Modifier.isPrivate(field.getModifiers()) || none);
            due(field + " is a constant, if static", !Modifier.isStatic(field.getModifiers()) || Modifier.isFinal(field.getModifiers()));
        }
        due("NONE", PairKeeper.NONE == -1);
        for (Class<?> inside : face.getDeclaredClasses()) {
            int how = inside.getModifiers();
            due(inside + " is static, not public", Modifier.isStatic(how) && !Modifier.isPublic(how) && !Modifier.isProtected(how));
            privateNames(inside, names);
        }
        due("12 classes at most", face.getDeclaredClasses().length < 12);
        throwsAsTold();
        System.out.println(found.size() + " methods of the face, " + wrong + " wrong");
        if (wrong != 0) {
            System.exit(1);
        }
    }

    /** Each method with arguments of all kinds, on new and on changed objects: it throws what it tells, or nothing. */
    private static void throwsAsTold() throws Exception {
        Random random = new Random(7);
        for (Method method : PairKeeper.class.getDeclaredMethods()) {
            if (!Modifier.isPublic(method.getModifiers())) {
                continue;
            }
            Set<Class<?>> told = Set.of(method.getExceptionTypes());
            for (int run = 0; run < 40; run++) {
                PairKeeper x = changed(run % 4, random);
                for (int n = 0; n < 100; n++) {
                    Object[] values = new Object[method.getParameterCount()];
                    for (int k = 0; k < values.length; k++) {
                        values[k] = ODD[random.nextInt(ODD.length)];
                    }
                    try {
                        method.invoke(x, values);
                    } catch (InvocationTargetException e) {
                        if (!told.contains(e.getCause().getClass())) {
                            due(method + Arrays.toString(values) + " throws " + e.getCause(), false);
                        }
                    }
                }
            }
        }
    }

    /** 0 a new object, 1 many FITS, 2 these and no WORKER THERE, 3 twelve of both with all FITS. */
    private static PairKeeper changed(int how, Random random) {
        PairKeeper x = new PairKeeper();
        if (how == 0) {
            return x;
        }
        byte[] text = (how == 3 ? "workers 12;tasks 12;                    " : "workers 5;tasks 7;keep 0;               ").getBytes();
        ByteBuffer buffer = ByteBuffer.wrap(text);
        for (int k = 0; k < 2; k++) {
            x.feed(buffer.getInt(), buffer.getInt(), buffer.getInt(), buffer.getInt(), buffer.getInt());
        }
        x.text(40);
        for (int w = 0; w < x.told(0); w++) {
            for (int t = 0; t < x.told(1); t++) {
                if (how == 3 || random.nextBoolean()) {
                    x.add(w, t, random.nextInt(100));
                }
            }
        }
        for (int w = 0; w < x.told(0) && how == 2; w++) {
            x.is(0, w, 0);
        }
        return x;
    }

    private static void privateNames(Class<?> where, Set<String> names) {
        for (Method method : where.getDeclaredMethods()) {
            due(method + " bears no name of the face", Modifier.isPublic(method.getModifiers()) || !names.contains(method.getName()));
        }
    }

    private static String show(Method method) {
        StringBuilder b = new StringBuilder(method.getReturnType().getName()).append(' ').append(method.getName()).append('(');
        for (Class<?> type : method.getParameterTypes()) {
            b.append(b.charAt(b.length() - 1) == '(' ? "" : ",").append(type.getName());
        }
        b.append(')');
        for (Class<?> type : method.getExceptionTypes()) {
            b.append(type == IllegalArgumentException.class ? " IAE"
                : type == java.util.NoSuchElementException.class ? " NSEE" : " " + type);
        }
        return b.toString();
    }

    private static void due(String what, boolean good) {
        if (!good) {
            wrong++;
            System.out.println("not so: " + what);
        }
    }
}
