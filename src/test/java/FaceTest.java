import java.lang.reflect.Constructor;
import java.lang.reflect.Field;
import java.lang.reflect.Method;
import java.lang.reflect.Modifier;
import java.util.ArrayList;
import java.util.Collections;
import java.util.List;
import java.util.NoSuchElementException;
import java.util.Random;

/** The face is the document's and no more; and nothing but look's exception ever reaches a caller. */
public final class FaceTest {
    private static final Checks CHECKS = new Checks("FaceTest");
    private static final String[] FACE = {
        "boolean floors(int)", "int feed(long,long,long)", "int circuit()", "int rule()", "int press(int)",
        "boolean again()", "int look(int)", "int never(int,int)", "int neverRow(int,int)",
        "int forgets(int,int,int)", "int forgetsRow(int,int,int)", "int stuck(int)", "int tried(int,int)",
        "int thought(int)", "int tests(int)", "boolean cars(int,int,int,int)", "int person(int,int,int)",
        "boolean hold(int,int,int)", "boolean fire(int)", "boolean nobody()", "int run()", "int rode(int,int)",
        "int waits(int)", "int moved(int,int)", "int stopped(int)", "int best(int,int)",
        "boolean trip(int,int,int)", "boolean gauge(int,int)", "int rope(int,int)", "int first(int)",
        "long lasts(int,int)", "int count(int)"};

    private FaceTest() { }

    public static void main(String[] args) throws Exception {
        members();
        nothingThrows();
        CHECKS.end();
    }

    private static void members() {
        Class<?> lift = OldLift.class;
        CHECKS.yes("public and final", Modifier.isPublic(lift.getModifiers()) && Modifier.isFinal(lift.getModifiers()));
        List<String> due = new ArrayList<>(List.of(FACE));
        List<String> names = new ArrayList<>();
        for (Method method : lift.getDeclaredMethods()) {
            if (!Modifier.isPrivate(method.getModifiers())) {
                CHECKS.yes("in the face: " + told(method), due.remove(told(method)));
                names.add(method.getName());
            }
        }
        CHECKS.due("methods that are missing", due.size(), 0);
        for (Field field : lift.getDeclaredFields()) {
            boolean isNone = field.getName().equals("NONE") && Modifier.isPublic(field.getModifiers());
            CHECKS.yes("field " + field.getName(), isNone || Modifier.isPrivate(field.getModifiers()));
            boolean isFinal = Modifier.isFinal(field.getModifiers());
            CHECKS.yes("static is final: " + field.getName(), isFinal || !Modifier.isStatic(field.getModifiers()));
        }
        Constructor<?>[] constructors = lift.getDeclaredConstructors();
        CHECKS.due("constructors", constructors.length, 1);
        CHECKS.yes("public", Modifier.isPublic(constructors[0].getModifiers()));
        int classes = 1;
        for (Class<?> inside : lift.getDeclaredClasses()) {
            classes++;
            CHECKS.yes("static: " + inside, Modifier.isStatic(inside.getModifiers()));
            CHECKS.no("public: " + inside, Modifier.isPublic(inside.getModifiers()));
            CHECKS.yes("fields of " + inside, inside.getDeclaredFields().length <= 20);
            for (Method method : inside.getDeclaredMethods()) {
                CHECKS.no("bears a public name: " + method, names.contains(method.getName()));
                CHECKS.yes("parameters of " + method, method.getParameterCount() <= 7);
            }
        }
        CHECKS.yes("twelve classes", classes <= 12);
    }

    private static String told(Method method) {
        StringBuilder text = new StringBuilder(method.getReturnType() + " " + method.getName() + "(");
        for (Class<?> parameter : method.getParameterTypes()) {
            text.append(text.charAt(text.length() - 1) == '(' ? "" : ",").append(parameter);
        }
        return text.append(")").toString();
    }

    /** Any calls in any order, with arguments at and beyond all edges. */
    private static void nothingThrows() throws Exception {
        List<Method> methods = new ArrayList<>();
        for (Method method : OldLift.class.getDeclaredMethods()) {
            if (Modifier.isPublic(method.getModifiers())) {
                methods.add(method);
            }
        }
        methods.sort((a, b) -> a.getName().compareTo(b.getName()));
        int thrown = 0;
        for (int seed = 0; seed < 500; seed++) {
            Random random = new Random(seed);
            OldLift lift = new OldLift();
            Collections.shuffle(methods, random);
            // With those that feed a circuit they are no more than 512.
            for (int i = 0; i < 300; i++) {
                if (i % 60 == 0) {
                    Texts.feed(lift, Texts.circuit(random, lift.count(0)));
                    lift.circuit();
                }
                if (!endsWell(lift, methods.get(random.nextInt(methods.size())), random)) {
                    thrown++;
                }
            }
        }
        CHECKS.due("calls that threw what they must not", thrown, 0);
    }

    private static boolean endsWell(OldLift lift, Method method, Random random) throws IllegalAccessException {
        Object[] arguments = new Object[method.getParameterCount()];
        for (int i = 0; i < arguments.length; i++) {
            boolean isLong = method.getParameterTypes()[i] == long.class;
            arguments[i] = isLong ? (Object) random.nextLong() : (Object) anInt(random);
        }
        try {
            method.invoke(lift, arguments);
            return true;
        } catch (java.lang.reflect.InvocationTargetException e) {
            boolean isLook = method.getName().equals("look") && e.getCause() instanceof NoSuchElementException;
            if (!isLook) {
                System.out.println(method + ": " + e.getCause());
            }
            return isLook;
        }
    }

    private static int anInt(Random random) {
        int[] edges = {Integer.MIN_VALUE, Integer.MAX_VALUE, -2, -1, 60, 61, 255, 256, 300, 301, 899, 900, 9999,
            10000, 50, 51};
        int pick = random.nextInt(10);
        return pick == 0 ? edges[random.nextInt(edges.length)] : pick == 1 ? random.nextInt() : random.nextInt(8);
    }
}
