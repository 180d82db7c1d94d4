import java.lang.reflect.InvocationTargetException;
import java.lang.reflect.Method;
import java.lang.reflect.Modifier;
import java.util.ArrayList;
import java.util.Comparator;
import java.util.List;
import java.util.Set;

/** Long runs of calls on the program and on the model: each answer and each exception is the same. */
final class RandomRunTests {
    private static final int RUNS = 400;
    private static final int CALLS = 512;
    private static final String[] NAMES = {"a", "b", "c", "d", "e", "f", "g", "h", "i", "j", "k", "l", "car", "park", "abcdefgh",
        "repeat"};
    private static final String SIGNS = "abz019 ;()\n!A";
    private static final Set<String> CHANGES = Set.of("prefer", "swap", "turn", "setBack", "come", "go", "sort", "reverse",
            "undo", "restore", "readText", "runScript", "save");

    private final Check check;
    private final List<Method> methods;
    private long seed;
    private ParkingCircle program = new ParkingCircle();
    private Model model = new Model();
    private final List<String> calls = new ArrayList<>();

    private RandomRunTests(Check check, long seed) {
        this.check = check;
        this.seed = seed;
        this.methods = face();
    }

    static void all(Check check) {
        check.test("promises 1 to 55: " + RUNS + " runs as the model answers", RandomRunTests::runs);
    }

    static List<Method> face() {
        List<Method> face = new ArrayList<>();
        for (Method method : ParkingCircle.class.getDeclaredMethods()) {
            if (Modifier.isPublic(method.getModifiers())) {
                face.add(method);
            }
        }
        face.sort(Comparator.comparing(Method::getName));
        return face;
    }

    private static void runs(Check check) {
        for (int run = 0; run < RUNS; run++) {
            if (!new RandomRunTests(check, run).run()) {
                return;
            }
        }
    }

    /** Always the same numbers for the same seed. */
    private int below(int limit) {
        seed = seed * 6364136223846793005L + 1442695040888963407L;
        return (int) ((seed >>> 33) % limit);
    }

    private boolean run() {
        below(1);
        int done = 0;
        while (done < CALLS) {
            int kind = below(20);
            if (kind == 0 || done == 0) {
                if (!feed(text()) || !call("readText")) {
                    return false;
                }
            } else if (kind < 3) {
                if (!feed(script()) || !call("runScript")) {
                    return false;
                }
            } else if (kind == 3) {
                if (!feed(name()) || !call("come", below(program.setting(0) + 3))) {
                    return false;
                }
            } else if (!anyCall()) {
                return false;
            }
            done = calls.size();
        }
        return true;
    }

    private boolean anyCall() {
        Method method = methods.get(below(methods.size()));
        if (CHANGES.contains(method.getName()) && below(3) > 0) {
            method = methods.get(below(methods.size()));
        }
        Object[] arguments = new Object[method.getParameterCount()];
        for (int i = 0; i < arguments.length; i++) {
            arguments[i] = number();
        }
        return compare(method, arguments);
    }

    private int number() {
        switch (below(12)) {
            case 0:
                return -1 - below(3);
            case 1:
                return below(101);
            case 2:
                return below(2) == 0 ? Integer.MIN_VALUE : Integer.MAX_VALUE;
            default:
                return below(program.setting(0) + 1);
        }
    }

    private boolean call(String name, Object... arguments) {
        for (Method method : methods) {
            if (method.getName().equals(name)) {
                return compare(method, arguments);
            }
        }
        throw new IllegalStateException(name);
    }

    private boolean compare(Method method, Object[] arguments) {
        StringBuilder told = new StringBuilder(method.getName());
        for (Object argument : arguments) {
            told.append(' ').append(argument);
        }
        calls.add(told.toString());
        Object due = answer(modelMethod(method), model, arguments);
        Object got = answer(method, program, arguments);
        if (!due.equals(got)) {
            int from = Math.max(0, calls.size() - 40);
            check.tell(calls.subList(from, calls.size()) + " answered " + got + ", due is " + due);
            return false;
        }
        return true;
    }

    private static Method modelMethod(Method method) {
        try {
            return Model.class.getDeclaredMethod(method.getName(), method.getParameterTypes());
        } catch (NoSuchMethodException missing) {
            throw new IllegalStateException(missing);
        }
    }

    private static Object answer(Method method, Object of, Object[] arguments) {
        try {
            return method.invoke(of, arguments);
        } catch (InvocationTargetException thrown) {
            return thrown.getCause().getClass();
        } catch (IllegalAccessException hidden) {
            throw new IllegalStateException(hidden);
        }
    }

    /** Puts just this text into both buffers. */
    private boolean feed(String text) {
        byte[] bytes = text.getBytes(java.nio.charset.StandardCharsets.ISO_8859_1);
        if (!call("truncate", 0)) {
            return false;
        }
        for (int from = 0; from < bytes.length && from < 400; from += 20) {
            if (!call("feed", Circles.four(bytes, from), Circles.four(bytes, from + 4), Circles.four(bytes, from + 8),
                    Circles.four(bytes, from + 12), Circles.four(bytes, from + 16))) {
                return false;
            }
        }
        return call("truncate", Math.min(400, bytes.length));
    }

    private String name() {
        return below(10) == 0 ? broken("abc") : NAMES[below(NAMES.length)];
    }

    private String space() {
        return below(6) == 0 ? "\n " : " ";
    }

    private String text() {
        int cars = below(8) == 0 ? below(14) : below(12);
        StringBuilder text = new StringBuilder("park" + space() + cars + ";");
        if (below(2) == 0) {
            text.append("back ").append(below(below(4) == 0 ? 8 : 6)).append(";");
        }
        int told = below(8) == 0 ? below(13) : cars;
        int first = below(NAMES.length);
        int narrow = 1 + below(cars + 1);
        for (int car = 0; car < told; car++) {
            String name = below(40) == 0 ? NAMES[below(NAMES.length)] : NAMES[(first + car) % NAMES.length];
            text.append("car").append(space()).append(name).append(space());
            text.append(below(40) == 0 ? below(20) : below(narrow)).append(";");
        }
        return below(6) == 0 ? broken(text.toString()) : text.toString();
    }

    private String script() {
        StringBuilder text = new StringBuilder();
        appendCommands(text, below(3) == 0 ? 12 : 4, 0);
        if (below(12) == 0) {
            text.append(text);
            text.append(text);
        }
        return below(6) == 0 ? broken(text.toString()) : text.toString();
    }

    private void appendCommands(StringBuilder text, int most, int within) {
        int commands = below(most + 1);
        for (int i = 0; i < commands && text.length() < 360; i++) {
            appendCommand(text, within);
            text.append(below(8) == 0 ? " ;\n" : ";");
        }
    }

    private void appendCommand(StringBuilder text, int within) {
        String car = below(12) == 0 ? NAMES[below(NAMES.length)] : carThere();
        int spot = below(20) == 0 ? below(1000) : below(program.setting(0) + 2);
        switch (below(9)) {
            case 0 -> text.append("prefer ").append(car).append(' ').append(spot);
            case 1 -> text.append("swap ").append(car);
            case 2 -> text.append("turn ").append(below(12) == 0 ? below(300) : below(100));
            case 3 -> text.append("back ").append(below(12) == 0 ? below(300) : below(6));
            case 4 -> text.append("come ").append(NAMES[below(NAMES.length)]).append(' ').append(spot);
            case 5 -> text.append("go ").append(car);
            case 6 -> text.append("sort");
            case 7 -> text.append("reverse");
            default -> {
                text.append("repeat ").append(below(12) == 0 ? below(40) : 1 + below(5)).append('(');
                if (within < 3) {
                    appendCommands(text, 3, within + 1);
                }
                text.append(')');
            }
        }
    }

    private String carThere() {
        return program.setting(0) == 0 ? "a" : Circles.name(program, below(program.setting(0)));
    }

    private String broken(String text) {
        if (text.isEmpty()) {
            return " ";
        }
        int at = below(text.length());
        char sign = below(6) == 0 ? (char) below(256) : SIGNS.charAt(below(SIGNS.length()));
        switch (below(4)) {
            case 0:
                return text.substring(0, at);
            case 1:
                return text.substring(0, at) + text.substring(at + 1);
            case 2:
                return text.substring(0, at) + sign + text.substring(at);
            default:
                return text.substring(0, at) + sign + text.substring(at + 1);
        }
    }
}
