import java.lang.reflect.InvocationTargetException;
import java.lang.reflect.Method;
import java.lang.reflect.Modifier;
import java.util.ArrayList;
import java.util.Comparator;
import java.util.List;
import java.util.Objects;
import java.util.Random;
import java.util.Set;

/**
 * Every call of the face, with any arguments in any state: nothing but what its throws clause
 * names leaves it, thrown by MailOffice and not by the machine; a call that throws, and a call that
 * only asks, changes nothing that can be asked; the same calls give the same answers.
 */
final class AnyArgumentsTest {
    private static final int RUNS = 50;
    private static final int CALLS = 450;
    private static final int CALLS_BETWEEN_LOOKS = 8;
    private static final int[] EDGES = {Integer.MIN_VALUE, Integer.MIN_VALUE + 1, -10000, -1, 24,
        25, 48, 49, 50, 51, 59, 60, 99, 100, 999, 1000, 9999, 10000, Integer.MAX_VALUE / 10,
        Integer.MAX_VALUE / 2, Integer.MAX_VALUE - 1, Integer.MAX_VALUE};
    private static final String[] PIECES = {"priority 76 20", "standard 1234 50", "prefix 007 3",
        "prefix 1 0", "unprefix 1", "sort", "sort 1", "place 0 2", "pull 0", "cutoff 0 9",
        "departure 3 7", "hours 1", ";", ";", ";", " ", "9", "x"};
    private static final Set<String> NOT_ONLY_ASKING = Set.of("accept", "addPrefix", "removePrefix",
        "sort", "sortAll", "place", "pull", "setCutoff", "setDeparture", "pass", "formatLetter",
        "append", "run", "undo", "save", "restore");
    private static final List<Method> FACE = face();
    private static final List<Method> CHANGING = changing();

    private final Random random;
    private final MailOffice office = new MailOffice();
    private final MailOffice twin = new MailOffice();

    private AnyArgumentsTest(long seed) {
        random = new Random(seed);
    }

    public static void main(String[] args) {
        for (int seed = 1; seed <= RUNS; seed++) {
            new AnyArgumentsTest(seed).go();
        }
        Expect.finish("AnyArgumentsTest");
    }

    /** In an order of their own, as the machine gives them in none. */
    private static List<Method> face() {
        List<Method> found = new ArrayList<>();
        for (Method method : MailOffice.class.getDeclaredMethods()) {
            if (Modifier.isPublic(method.getModifiers())) {
                found.add(method);
            }
        }
        found.sort(Comparator.comparing(Method::getName));
        return found;
    }

    private static List<Method> changing() {
        List<Method> found = new ArrayList<>(FACE);
        found.removeIf(method -> !NOT_ONLY_ASKING.contains(method.getName()));
        return found;
    }

    private void go() {
        fill();
        for (int calls = 0; calls < CALLS; calls++) {
            List<Method> some = random.nextBoolean() ? FACE : CHANGING;
            Method method = some.get(random.nextInt(some.size()));
            Object[] arguments = arguments(method);
            if (calls % CALLS_BETWEEN_LOOKS == 0) {
                lookAround(method, arguments);
            } else {
                callBoth(method, arguments);
            }
        }
    }

    /** The limits of 20 letters and of 60 characters come too seldom by themselves. */
    private void fill() {
        int letters = random.nextInt(21);
        for (int i = 0; i < letters; i++) {
            int code = random.nextInt(10000);
            Expect.equal("accept", office.accept(code, 50, false), twin.accept(code, 50, false));
        }
        int characters = random.nextBoolean() ? 60 : 0;
        for (int i = 0; i < characters; i++) {
            Expect.equal("append", office.append(';'), twin.append(';'));
        }
    }

    private void lookAround(Method method, Object[] arguments) {
        String before = everythingAsked();
        boolean hasThrown = callBoth(method, arguments);
        boolean onlyAsks = !NOT_ONLY_ASKING.contains(method.getName());
        // What run stores when it throws can be asked; its own tests tell what that is.
        if (onlyAsks || hasThrown && !method.getName().equals("run")) {
            Expect.equal("what can be asked after " + told(method, arguments), before,
                everythingAsked());
        }
    }

    /** Whether the call throws. */
    private boolean callBoth(Method method, Object[] arguments) {
        typeProgram(method);
        Object answer = call(office, method, arguments);
        Expect.equal(told(method, arguments) + " again", inWords(answer),
            inWords(call(twin, method, arguments)));
        if (answer instanceof Throwable) {
            requireNamed(method, arguments, (Throwable) answer);
        }
        return answer instanceof Throwable;
    }

    /** Programs that can be run come too seldom from single characters. */
    private void typeProgram(Method method) {
        if (!method.getName().equals("run")) {
            return;
        }
        int pieces = random.nextInt(4);
        for (int i = 0; i < pieces; i++) {
            for (char character : PIECES[random.nextInt(PIECES.length)].toCharArray()) {
                Expect.equal("append again",
                    inWords(Expect.outcome(() -> office.append(character))),
                    inWords(Expect.outcome(() -> twin.append(character))));
            }
        }
    }

    private static void requireNamed(Method method, Object[] arguments, Throwable thrown) {
        boolean named = false;
        for (Class<?> type : method.getExceptionTypes()) {
            named |= type == thrown.getClass();
        }
        Expect.equal(told(method, arguments) + " may throw " + thrown, true, named);
        // What the machine throws often has no stack any more.
        StackTraceElement[] stack = thrown.getStackTrace();
        String thrower = stack.length == 0 ? "the machine" : stack[0].getClassName();
        Expect.equal(told(method, arguments) + " is thrown by", "MailOffice",
            thrower.replaceFirst("\\$.*", ""));
    }

    private static Object call(MailOffice one, Method method, Object[] arguments) {
        try {
            return method.invoke(one, arguments);
        } catch (InvocationTargetException thrown) {
            return thrown.getCause();
        } catch (IllegalAccessException impossible) {
            throw new AssertionError(impossible);
        }
    }

    private Object[] arguments(Method method) {
        Class<?>[] types = method.getParameterTypes();
        Object[] arguments = new Object[types.length];
        for (int i = 0; i < types.length; i++) {
            if (types[i] == boolean.class) {
                arguments[i] = random.nextBoolean();
            } else if (types[i] == char.class) {
                arguments[i] = (char) (random.nextInt(4) == 0 ? random.nextInt(256) : ';');
            } else {
                arguments[i] = number();
            }
        }
        return arguments;
    }

    /** Mostly small, as routes, ids and hours are, so that many calls return normally. */
    private int number() {
        switch (random.nextInt(8)) {
            case 0: return EDGES[random.nextInt(EDGES.length)];
            case 1: return random.nextInt();
            case 2: return random.nextInt(24);
            default: return random.nextInt(6);
        }
    }

    private String everythingAsked() {
        StringBuilder asked = new StringBuilder();
        for (Method method : FACE) {
            if (NOT_ONLY_ASKING.contains(method.getName())) {
                continue;
            }
            int parameters = method.getParameterCount();
            int firsts = parameters > 0 ? 24 : 1;
            int seconds = parameters > 1 ? 5 : 1;
            for (int first = 0; first < firsts; first++) {
                for (int second = 0; second < seconds; second++) {
                    Object[] all = {first, second};
                    Object[] arguments = java.util.Arrays.copyOf(all, parameters);
                    asked.append(inWords(call(office, method, arguments))).append(' ');
                }
            }
        }
        return asked.toString();
    }

    private static String inWords(Object answer) {
        return answer instanceof Throwable ? answer.getClass().getName() : Objects.toString(answer);
    }

    private static String told(Method method, Object[] arguments) {
        return method.getName() + java.util.Arrays.toString(arguments);
    }
}
