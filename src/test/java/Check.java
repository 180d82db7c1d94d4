/** Runs tests, tells which one failed, and counts them. */
final class Check {
    interface Test {
        void run(Check check) throws Exception;
    }

    interface Call {
        Object answer() throws Exception;
    }

    interface IntCall {
        Object answer(int n) throws Exception;
    }

    private int passed = 0;
    private int failed = 0;
    private int wrong = 0;
    private String test = "";

    void test(String name, Test body) {
        test = name;
        wrong = 0;
        try {
            body.run(this);
        } catch (Throwable thrown) {
            tell("threw " + thrown);
        }
        if (wrong == 0) {
            passed++;
        } else {
            failed++;
        }
    }

    void same(String what, Object got, Object want) {
        if (!numberAsLong(got).equals(numberAsLong(want))) {
            tell(what + " answered " + got + ", due is " + want);
        }
    }

    void throwing(String what, Class<?> kind, Call call) {
        try {
            tell(what + " answered " + call.answer() + ", due is " + kind.getSimpleName());
        } catch (Throwable thrown) {
            if (thrown.getClass() != kind) {
                tell(what + " threw " + thrown + ", due is " + kind.getSimpleName());
            }
        }
    }

    void noIndex(String what, Call call) {
        throwing(what, IndexOutOfBoundsException.class, call);
    }

    void noArgument(String what, Call call) {
        throwing(what, IllegalArgumentException.class, call);
    }

    void noState(String what, Call call) {
        throwing(what, IllegalStateException.class, call);
    }

    /** Just the numbers in a range are parameters of an index; there is none if the range is empty. */
    void onlyIndexes(String what, int from, int to, IntCall call) {
        only(what, IndexOutOfBoundsException.class, from, to, call);
    }

    /** Just the numbers in a range are allowed. */
    void onlyArguments(String what, int from, int to, IntCall call) {
        only(what, IllegalArgumentException.class, from, to, call);
    }

    private void only(String what, Class<?> kind, int from, int to, IntCall call) {
        for (int n = from; n <= to; n++) {
            try {
                call.answer(n);
            } catch (Throwable thrown) {
                tell(what + " with " + n + " threw " + thrown);
            }
        }
        for (int n : new int[] {from - 1, from - 2, to + 1, to + 2, 1000 + to, Integer.MIN_VALUE, Integer.MAX_VALUE}) {
            throwing(what + " with " + n, kind, () -> call.answer(n));
        }
    }

    void tell(String what) {
        wrong++;
        if (wrong <= 20) {
            System.out.println("FAILED " + test + ": " + what);
        }
    }

    boolean finish() {
        System.out.println(passed + " passed, " + failed + " failed");
        return failed == 0 && passed > 0;
    }

    private static Object numberAsLong(Object value) {
        return value instanceof Integer i ? (Object) (long) i : value;
    }
}
