/** Compares answers with those that are due, prints what differs, and ends a test with its exit code. */
final class Due {
    interface Call {
        Object run();
    }

    static final Class<?> BOUNDS = IndexOutOfBoundsException.class;
    static final Class<?> ARGUMENT = IllegalArgumentException.class;
    static final Class<?> STATE = IllegalStateException.class;

    private static int checks = 0;
    private static int wrong = 0;

    private Due() {
    }

    static void is(String what, Object got, Object want) {
        checks++;
        if (!plain(got).equals(plain(want))) {
            wrong++;
            if (wrong <= 50) {
                System.out.println(what + " answered " + got + ", due is " + want);
            }
        }
    }

    /** The very class counts: a subclass would come from the machine. */
    static void refuses(String what, Class<?> want, Call call) {
        is(what, answer(call), "throws " + want.getName());
    }

    static String answer(Call call) {
        try {
            return String.valueOf(call.run());
        } catch (RuntimeException e) {
            return "throws " + e.getClass().getName();
        }
    }

    static void end() {
        System.out.println(checks + " checks, " + wrong + " wrong");
        if (wrong != 0 || checks == 0) {
            System.exit(1);
        }
    }

    private static Object plain(Object value) {
        return value instanceof Integer ? Long.valueOf((Integer) value) : String.valueOf(value).equals("null") ? "null" : value;
    }
}
