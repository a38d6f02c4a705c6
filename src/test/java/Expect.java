import java.util.function.Supplier;

/** What a test expects of calls. Every failure is printed; {@link #end()} ends the test. */
final class Expect {
    private static int checked = 0;
    private static int wrong = 0;
    private static String topic = "";

    private Expect() {
    }

    /** What the checks that follow are about: it is printed before each of their failures. */
    static void about(String text) {
        topic = text.isEmpty() ? "" : text + ": ";
    }

    static int checked() {
        return checked;
    }

    static void equal(String call, Object due, Object got) {
        checked++;
        if (!due.equals(got)) {
            fail(call + " answered " + got + ", due is " + due);
        }
    }

    static void raises(String call, Class<? extends RuntimeException> due, Supplier<Object> body) {
        checked++;
        try {
            fail(call + " answered " + body.get() + ", due is " + due.getSimpleName());
        } catch (RuntimeException e) {
            if (e.getClass() != due) {
                fail(call + " threw " + e.getClass().getSimpleName() + ", due is " + due.getSimpleName());
            }
            if (!isThrownByCode(e)) {
                fail(call + " was answered by an exception of the machine or the library: " + e);
            }
        }
    }

    /** Whether the class itself threw it with a text of its own, not the machine or the library below it. */
    static boolean isThrownByCode(Throwable e) {
        StackTraceElement[] trace = e.getStackTrace();
        // The machine leaves out the trace of an exception that it has thrown very often.
        boolean isOurs = trace.length > 0 && trace[0].getClassName().startsWith("Lendlathe");
        return isOurs && e.getMessage() != null && !e.getMessage().contains("by zero");
    }

    static void fail(String text) {
        wrong++;
        System.out.println("  " + topic + text);
    }

    static void end() {
        System.out.println("  " + checked + " checks, " + wrong + " wrong");
        System.exit(wrong == 0 && checked > 0 ? 0 : 1);
    }
}
