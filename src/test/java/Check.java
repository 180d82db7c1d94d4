/** Runs tests, tells which one failed, and counts them. */
final class Check {
    interface Test {
        void run(Check check) throws Exception;
    }

    interface Call {
        Object answer() throws Exception;
    }

    private int passed = 0;
    private int failed = 0;
    private int wrong = 0;
    private String test = "";

    void test(String name, Test body) {
        test = name;
        wrong = 0;
        try {
            body.run(this);
        } catch (Throwable thrown) {
            tell("threw " + thrown);
        }
        if (wrong == 0) {
            passed++;
        } else {
            failed++;
        }
    }

    void same(String what, Object got, Object want) {
        if (!numberAsLong(got).equals(numberAsLong(want))) {
            tell(what + " answered " + got + ", due is " + want);
        }
    }

    void throwing(String what, Class<?> kind, Call call) {
        try {
            tell(what + " answered " + call.answer() + ", due is " + kind.getSimpleName());
        } catch (Throwable thrown) {
            if (thrown.getClass() != kind) {
                tell(what + " threw " + thrown + ", due is " + kind.getSimpleName());
            }
        }
    }

    void noIndex(String what, Call call) {
        throwing(what, IndexOutOfBoundsException.class, call);
    }

    void noArgument(String what, Call call) {
        throwing(what, IllegalArgumentException.class, call);
    }

    void noState(String what, Call call) {
        throwing(what, IllegalStateException.class, call);
    }

    void tell(String what) {
        wrong++;
        if (wrong <= 20) {
            System.out.println("FAILED " + test + ": " + what);
        }
    }

    boolean finish() {
        System.out.println(passed + " passed, " + failed + " failed");
        return failed == 0 && passed > 0;
    }

    private static Object numberAsLong(Object value) {
        return value instanceof Integer i ? (Object) (long) i : value;
    }
}
