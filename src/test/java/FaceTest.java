import com.sun.management.ThreadMXBean;
import java.io.DataInputStream;
import java.io.IOException;
import java.lang.management.ManagementFactory;
import java.lang.reflect.Constructor;
import java.lang.reflect.Field;
import java.lang.reflect.Method;
import java.lang.reflect.Modifier;
import java.util.Set;
import java.util.TreeSet;

/**
 * The public face as the document writes it, and what can be seen of LANGUAGE.md's rules in the compiled class: no other
 * member (rule 1), no other library (rule 4), no static state (rule 5), nothing made by a call (rule 12).
 */
public final class FaceTest {
    private static final Due DUE = new Due("FaceTest");

    /** Asked for once: to ask for it makes objects, too. */
    private static final ThreadMXBean THREADS = (ThreadMXBean) ManagementFactory.getThreadMXBean();

    private static final String NO_SUCH = " throws NoSuchElementException";
    private static final String ILLEGAL = " throws IllegalArgumentException";
    private static final String BOTH = " throws NoSuchElementException, IllegalArgumentException";

    private static final String[] FACE = {
        "int feed(int, int, int, int, int)", "int coast(int)" + ILLEGAL, "int fault()", "int count(int)" + NO_SUCH,
        "int cell(int, int)" + NO_SUCH, "int girl(int, int)" + NO_SUCH, "int days(int)",
        "boolean rest(int, boolean)" + NO_SUCH, "int go(int, int)" + NO_SUCH, "int bag(int)",
        "int peg(int, boolean)" + NO_SUCH, "int undo()", "int then(int, int)" + BOTH, "int sky(int, int)" + BOTH,
        "int overdone(int)" + ILLEGAL, "int first(int)" + NO_SUCH, "int spent()", "int streak(int)" + NO_SUCH,
        "int patch(int, int)" + BOTH, "int patches(int)" + ILLEGAL, "int way(int, int)" + NO_SUCH, "int toRest()",
        "int toStand(int, int)" + NO_SUCH, "int toSwish(int, int)" + BOTH, "int sent(int, int)" + BOTH,
        "int band(int)" + ILLEGAL, "int steady()", "int steps(int, int)" + NO_SUCH, "int nearest(int)" + NO_SUCH,
        "int missed(int)" + NO_SUCH, "int see(int, int, int)" + NO_SUCH, "int skilled(int)" + NO_SUCH,
        "int look(int)" + NO_SUCH, "void forget()", "int game(int, int, int)" + BOTH, "int skies(int, int, int)" + BOTH,
        "void image()", "boolean restore()"
    };

    /** Rule 4's library, so far as a class file can name it. */
    private static final Set<String> LIBRARY = Set.of("java/lang/Object", "java/lang/String", "java/lang/StringBuilder",
        "java/lang/Integer", "java/lang/Long", "java/lang/Math", "java/lang/System", "java/lang/Comparable",
        "java/lang/Iterable", "java/lang/Enum", "java/util/ArrayList", "java/util/List", "java/util/Iterator",
        "java/util/Arrays", "java/util/NoSuchElementException", "java/lang/IllegalArgumentException",
        "java/lang/IllegalStateException", "java/lang/IndexOutOfBoundsException", "java/lang/ArithmeticException",
        "java/lang/UnsupportedOperationException", "java/lang/RuntimeException");

    private static String told(Method method) {
        StringBuilder text = new StringBuilder(method.getReturnType().getSimpleName());
        text.append(' ').append(method.getName()).append('(');
        Class<?>[] types = method.getParameterTypes();
        for (int i = 0; i < types.length; i++) text.append(i == 0 ? "" : ", ").append(types[i].getSimpleName());
        text.append(')');
        Class<?>[] thrown = method.getExceptionTypes();
        for (int i = 0; i < thrown.length; i++) text.append(i == 0 ? " throws " : ", ").append(thrown[i].getSimpleName());
        return text.toString();
    }

    private static void methods() {
        Set<String> due = new TreeSet<>(Set.of(FACE));
        Set<String> seen = new TreeSet<>();
        Set<String> names = new TreeSet<>();
        for (Method method : BlueBag.class.getDeclaredMethods()) {
            if (!Modifier.isPublic(method.getModifiers())) continue;
            seen.add(told(method));
            names.add(method.getName());
            DUE.holds("the face: static " + method.getName(), false, Modifier.isStatic(method.getModifiers()));
        }
        DUE.like("the face: methods", due.toString(), seen.toString());
        for (Method method : BlueBag.class.getDeclaredMethods()) {
            if (Modifier.isPublic(method.getModifiers())) continue;
            DUE.holds("rule 1: private " + method.getName(), true, Modifier.isPrivate(method.getModifiers()));
            DUE.holds("rule 1: a public one's name, " + method.getName(), false, names.contains(method.getName()));
        }
    }

    private static void members() {
        int shape = BlueBag.class.getModifiers();
        DUE.holds("the face: public", true, Modifier.isPublic(shape));
        DUE.holds("the face: final", true, Modifier.isFinal(shape));
        DUE.like("rule 1: no package", "BlueBag", BlueBag.class.getName());
        DUE.holds("the face: of no other class", true, BlueBag.class.getSuperclass() == Object.class);
        DUE.is("the face: of no interface", 0, () -> BlueBag.class.getInterfaces().length);
        Constructor<?>[] made = BlueBag.class.getDeclaredConstructors();
        DUE.is("the face: constructors", 1, () -> made.length);
        DUE.holds("the face: its constructor is public", true, Modifier.isPublic(made[0].getModifiers()));
        DUE.is("the face: its constructor takes nothing", 0, () -> made[0].getParameterCount());
        DUE.is("the constants: NONE", -1, () -> BlueBag.NONE);
        Set<String> shown = new TreeSet<>();
        for (Field field : BlueBag.class.getDeclaredFields()) {
            if (!Modifier.isPrivate(field.getModifiers())) shown.add(Modifier.toString(field.getModifiers()) + " "
                + field.getType() + " " + field.getName());
        }
        DUE.like("the face: fields", "[public static final int NONE]", shown.toString());
        noStaticState(BlueBag.class);
        int inside = 0;
        for (Class<?> type : BlueBag.class.getDeclaredClasses()) {
            int is = type.getModifiers();
            inside++;
            DUE.holds("rule 1: " + type + " is static", true, Modifier.isStatic(is));
            DUE.holds("rule 1: " + type + " is shown", false, Modifier.isPublic(is) || Modifier.isProtected(is));
            noStaticState(type);
        }
        DUE.holds("rule 11: some twelve classes", true, inside <= 12);
    }

    private static void noStaticState(Class<?> type) {
        int fields = 0;
        for (Field field : type.getDeclaredFields()) {
            boolean isStatic = Modifier.isStatic(field.getModifiers());
            if (!isStatic) fields++;
            DUE.holds("rule 5: " + field + " is final", true, !isStatic || Modifier.isFinal(field.getModifiers()));
        }
        DUE.holds("rule 11: some twenty fields of " + type, true, fields <= 20);
        for (Method method : type.getDeclaredMethods()) {
            DUE.holds("rule 11: seven parameters of " + method, true, method.getParameterCount() <= 7);
        }
    }

    // ---- the library that the class names

    private static void library(String file) throws IOException {
        try (DataInputStream in = new DataInputStream(FaceTest.class.getResourceAsStream(file))) {
            in.skipBytes(8);
            int many = in.readUnsignedShort();
            String[] texts = new String[many];
            int[] classes = new int[many];
            for (int i = 1; i < many; i++) {
                int tag = in.readUnsignedByte();
                if (tag == 1) {
                    texts[i] = in.readUTF();
                } else if (tag == 7) {
                    classes[i] = in.readUnsignedShort();
                } else {
                    in.skipBytes(tag == 15 ? 3 : tag == 8 || tag == 16 || tag == 19 || tag == 20 ? 2 : tag == 5 || tag == 6 ? 8 : 4);
                    if (tag == 5 || tag == 6) i++;
                    DUE.holds("rule 2: a lambda or joined text in " + file, false, tag == 15 || tag == 18);
                }
            }
            for (int i = 1; i < many; i++) {
                if (classes[i] == 0 || texts[classes[i]].startsWith("[")) continue;
                String name = texts[classes[i]];
                boolean own = name.equals("BlueBag") || name.startsWith("BlueBag$");
                DUE.holds("rule 4: " + name + " in " + file, true, own || LIBRARY.contains(name));
            }
        }
    }

    // ---- what the calls make

    private static long madeSoFar() {
        return THREADS.getThreadAllocatedBytes(Thread.currentThread().getId());
    }

    /** Calls of each kind that throws nothing; what they make is not to be more than nothing. */
    private static int callAll(BlueBag x) {
        int sum = x.feed(0x6b6e6f62, 0x73203132, 0x3b72696e, 0x73652031, 0x343b2020) + x.fault() + x.count(10);
        sum += x.cell(0, 3) + x.girl(0, 3) + x.days(3) + x.go(0, 3) + x.bag(9) + x.peg(1, true);
        sum += (x.rest(0, true) ? 1 : 0) + x.undo() + x.then(0, 40) + x.sky(40, 2) + x.overdone(40) + x.first(5);
        sum += x.spent() + x.streak(0) + x.patch(0, 5) + x.patches(3) + x.way(0, 5) + x.toRest() + x.toStand(0, 0);
        sum += x.toSwish(0, 99) + x.sent(3, 1) + x.band(9) + x.steady() + x.steps(0, 5) + x.nearest(4) + x.missed(0);
        sum += x.see(0, 20, 0) + x.skilled(0) + x.look(0) + x.game(0, 1, 0) + x.skies(5, 40, 0);
        x.image();
        x.forget();
        x.undo();
        return sum + (x.restore() ? 1 : 0) + x.undo() + x.undo() + x.undo() + x.undo();
    }

    private static void room() {
        String text = "sky 3 2;girl 5 0;old 4 2;blue 4 50;dyes (skill+left)/2;fades not blue<9 or beside/7;";
        // what the machine makes when it first meets a call is not the class's
        callAll(Due.told(text));
        long start = madeSoFar();
        BlueBag x = new BlueBag();
        long object = madeSoFar() - start;
        DUE.holds("rule 12: a new object makes little: " + object, true, object < 60000);
        Due.feed(x, text);
        start = madeSoFar();
        int fault = x.coast(text.length());
        callAll(x);
        long calls = madeSoFar() - start;
        DUE.is("rule 12: the text is good", 0, () -> fault);
        DUE.is("rule 12: the calls make nothing", 0, () -> calls);
    }

    public static void main(String[] args) throws IOException {
        methods();
        members();
        library("BlueBag.class");
        for (Class<?> type : BlueBag.class.getDeclaredClasses()) library(type.getName() + ".class");
        room();
        DUE.end();
    }
}
