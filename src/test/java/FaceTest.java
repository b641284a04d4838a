import java.lang.reflect.Field;
import java.lang.reflect.Method;
import java.lang.reflect.Modifier;
import java.util.Arrays;
import java.util.Random;
import java.util.TreeSet;

/** The public face, that no call throws, the room that calls take. */
public final class FaceTest {
    private static int wrong = 0;

    private static final String[] FACE = {
        "int syllable(int,int,int)", "int of(int,int)", "int terms(int,int)", "int feed(int,int,int,int,int)",
        "int end(int)", "int row()", "int mutes()", "int metre()", "int law()", "int orders()", "int fault()",
        "int stopped()", "int force(int)", "int weigh(int,int)", "int ends(int)", "int meets(int)", "int pass()",
        "int undo()", "int steps(int)", "int best(int,int)", "int elisions(int)", "int mend(int)", "int reach(int)",
        "int length(int,int)", "int fits()", "int heard(int,int)", "int forget()", "int canBe()", "int listen(int)",
        "long few(int,int)", "int compare(int,int)", "int weeks(int,int)", "int drawn(int,int)", "int image(int)",
        "int back(int)", "int count(int)", "int status()"};

    private static void fail(String what) {
        wrong++;
        System.out.println(what);
    }

    private static String told(Method m) {
        StringBuilder text = new StringBuilder(m.getReturnType() + " " + m.getName() + "(");
        for (Class<?> c : m.getParameterTypes()) {
            text.append(text.charAt(text.length() - 1) == '(' ? "" : ",").append(c);
        }
        return text.append(")").toString();
    }

    private static void face() {
        Class<?> desk = ScansionDesk.class;
        TreeSet<String> want = new TreeSet<>(Arrays.asList(FACE));
        TreeSet<String> got = new TreeSet<>();
        TreeSet<String> names = new TreeSet<>();
        for (Method m : desk.getDeclaredMethods()) {
            if (Modifier.isPublic(m.getModifiers())) {
                got.add(told(m));
                names.add(m.getName());
            } else if (!Modifier.isPrivate(m.getModifiers()) && !m.isSynthetic()) {
                fail("neither public nor private: " + m);
            }
        }
        if (!got.equals(want)) {
            fail("the face is " + got);
        }
        if (!Modifier.isPublic(desk.getModifiers()) || !Modifier.isFinal(desk.getModifiers())) {
            fail("the class is not public and final");
        }
        if (desk.getConstructors().length != 1 || desk.getConstructors()[0].getParameterCount() != 0) {
            fail("the constructor");
        }
        for (Field f : desk.getDeclaredFields()) {
            boolean constant = f.getName().equals("NONE");
            if (!constant && !Modifier.isPrivate(f.getModifiers())) {
                fail("a field that is not private: " + f);
            }
            if (Modifier.isStatic(f.getModifiers()) && !Modifier.isFinal(f.getModifiers())) {
                fail("static and not final: " + f);
            }
        }
        for (Class<?> inside : desk.getDeclaredClasses()) {
            if (!Modifier.isStatic(inside.getModifiers())) {
                fail("not static: " + inside);
            }
            for (Method m : inside.getDeclaredMethods()) {
                if (names.contains(m.getName())) {
                    fail("bears the name of a public method: " + m);
                }
                if (m.getParameterCount() > 7) {
                    fail("more than seven parameters: " + m);
                }
            }
        }
        if (desk.getDeclaredClasses().length > 12) {
            fail("more than twelve classes");
        }
    }

    private static final int[] EXTREMES = {Integer.MIN_VALUE, Integer.MIN_VALUE + 1, -1000000, -21, -7, -2, -1, 0, 1, 2, 3, 5,
        6, 7, 8, 9, 10, 14, 15, 19, 20, 21, 60, 61, 99, 100, 400, 401, 998, 999, 1000, 1000000, 1000001,
        Integer.MAX_VALUE - 1, Integer.MAX_VALUE, 715827883, 1431655765, -1431655765};
    private static final String[] TEXTS = {"(any or long short) times 5 cut", "any times 9 any times 9", "cut", "any",
        "costs 1000*1000*1000%[place-3];bars if as=2 and mood<place;allows if weight/meets=1", "bars", "allows",
        "end done times 20 if scans 0=1 or scans 5=0-1;pass times 20;meet count-1;weigh 0 to 2-weight 0", "pass;pass",
        "\0\0\1\1\1\1\2\0\1\2\1\0", "((((((((((((((((((((", "[[[[[[[[[[", "not not not", "costs [[[[[[[[[[1", "weigh"};

    private static void neverThrows() throws ReflectiveOperationException {
        Random random = new Random(512);
        Method[] methods = ScansionDesk.class.getDeclaredMethods();
        Arrays.sort(methods, (a, b) -> told(a).compareTo(told(b)));
        for (int run = 0; run < 800; run++) {
            ScansionDesk desk = new ScansionDesk();
            StringBuilder log = new StringBuilder();
            for (int call = 0; call < 512; call++) {
                Method m = methods[random.nextInt(methods.length)];
                if (!Modifier.isPublic(m.getModifiers())) {
                    continue;
                }
                Object[] arguments = new Object[m.getParameterCount()];
                for (int k = 0; k < arguments.length; k++) {
                    arguments[k] = random.nextInt(4) > 0 ? random.nextInt(4) : EXTREMES[random.nextInt(EXTREMES.length)];
                }
                if (random.nextInt(6) == 0) {
                    Texts.put(desk, TEXTS[random.nextInt(TEXTS.length)]);
                }
                log.append(m.getName()).append(Arrays.toString(arguments)).append(' ');
                try {
                    m.invoke(desk, arguments);
                } catch (java.lang.reflect.InvocationTargetException e) {
                    fail(e.getCause() + " at " + log);
                    return;
                }
            }
        }
    }

    private static long allocated() {
        return ((com.sun.management.ThreadMXBean) java.lang.management.ManagementFactory.getThreadMXBean())
            .getThreadAllocatedBytes(Thread.currentThread().getId());
    }

    /** Calls that keep nothing make nothing; a metre of 200 steps makes a few rows. */
    private static void room() {
        allocated();
        long before = allocated();
        ScansionDesk d = new ScansionDesk();
        long made = allocated() - before;
        if (made > 80000) {
            fail("a new object takes " + made + " bytes");
        }
        for (int k = 0; k < 20; k++) {
            d.syllable(2, 1, 1);
        }
        String steps = "((any or long short or short short or short)times 8 any)times 2(any or long)times 9";
        for (int k = 0; k < 6; k++) {
            Texts.put(d, steps);
            before = allocated();
            if (d.metre() != k) {
                fail("metre");
            }
            made = allocated() - before;
            if (made > 6000) {
                fail("a metre takes " + made + " bytes");
            }
        }
        Texts.law(d, "costs place*as;bars if as=2 and place>3");
        d.force(0);
        Texts.put(d, "end 0 times 20 if scans 0=scans 1;pass times 20");
        before = allocated();
        long sum = d.orders();
        for (int k = 0; k < 20; k++) {
            sum += d.best(k % 6, k) + d.elisions(k % 6) + d.mend(k % 6) + d.reach(k % 6) + d.fits() + d.canBe()
                + d.listen(0) + d.few(20, 99) + d.compare(0, 1) + d.weeks(k, 60) + d.drawn(1, 1) + d.undo()
                + d.weigh(0, k % 3) + d.pass() + d.of(3, k % 9) + d.image(0);
        }
        made = allocated() - before;
        if (made > 4000 || sum == 0) {
            fail("questions take " + made + " bytes");
        }
    }

    public static void main(String[] args) throws Exception {
        face();
        neverThrows();
        room();
        System.out.println(wrong == 0 ? "the face and the room are as due" : wrong + " things are not as due");
        if (wrong != 0) {
            System.exit(1);
        }
    }
}
