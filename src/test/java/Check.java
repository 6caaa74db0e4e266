/** Counts what is checked and what is wrong; each test ends by done(). */
final class Check {
    interface Call {
        Object make();
    }

    private static int checked = 0;
    private static int wrong = 0;
    private static String heading = "";

    private Check() {
    }

    /** What is told ahead of each wrong answer from now on. */
    static void under(String newHeading) {
        heading = newHeading + ": ";
    }

    /** The answer as a text, or the simple name of what was thrown. */
    static String outcome(Call call) {
        try {
            return String.valueOf(call.make());
        } catch (RuntimeException e) {
            return "throws " + e.getClass().getSimpleName();
        }
    }

    static void due(String what, Object due, Call call) {
        checked++;
        String got = outcome(call);
        if (!got.equals(String.valueOf(due))) {
            wrong++;
            System.out.println(heading + what + ": answered " + got + ", due is " + due);
        }
    }

    static void argument(String what, Call call) {
        due(what, "throws IllegalArgumentException", call);
    }

    static void index(String what, Call call) {
        due(what, "throws IndexOutOfBoundsException", call);
    }

    static void unsupported(String what, Call call) {
        due(what, "throws UnsupportedOperationException", call);
    }

    static void illegalState(String what, Call call) {
        due(what, "throws IllegalStateException", call);
    }

    static void noElement(String what, Call call) {
        due(what, "throws NoSuchElementException", call);
    }

    static void done(String name) {
        System.out.println(name + ": " + checked + " checked, " + wrong + " wrong");
        if (wrong != 0) {
            System.exit(1);
        }
    }
}
