import java.util.Objects;

/** What the tests expect of a call: an answer or the class of an exception. */
final class Expect {
    /** A call that may throw. */
    interface Call {
        Object answer();
    }

    private static int wrong = 0;
    private static int checks = 0;

    private Expect() {
    }

    static void equal(String what, Object want, Object got) {
        checks++;
        if (!Objects.equals(want, got)) {
            wrong++;
            System.out.println(what + ": answered " + got + ", due is " + want);
        }
    }

    static void argument(String what, Call call) {
        thrown(what, IllegalArgumentException.class, call);
    }

    static void index(String what, Call call) {
        thrown(what, IndexOutOfBoundsException.class, call);
    }

    static void element(String what, Call call) {
        thrown(what, java.util.NoSuchElementException.class, call);
    }

    static void state(String what, Call call) {
        thrown(what, IllegalStateException.class, call);
    }

    static void arithmetic(String what, Call call) {
        thrown(what, ArithmeticException.class, call);
    }

    /** The very class, and thrown by MailOffice: not by the machine or the library for it. */
    static void thrown(String what, Class<?> want, Call call) {
        Object outcome = outcome(call);
        equal(what + " throws", want, outcome.getClass());
        if (outcome instanceof RuntimeException) {
            String thrower = ((RuntimeException) outcome).getStackTrace()[0].getClassName();
            equal(what + " is thrown by", "MailOffice", thrower.replaceFirst("\\$.*", ""));
        }
    }

    static int checksSoFar() {
        return checks;
    }

    static int wrongSoFar() {
        return wrong;
    }

    /** The answer, or the exception that the call throws. */
    static Object outcome(Call call) {
        try {
            return call.answer();
        } catch (RuntimeException thrown) {
            return thrown;
        }
    }

    /** Ends a test: exit code 1 if a check was wrong. */
    static void finish(String name) {
        System.out.println(name + ": " + checks + " checks, " + wrong + " wrong");
        if (wrong != 0 || checks == 0) {
            System.exit(1);
        }
    }
}
