/** Promises 41 to 48: changes. */
final class ChangeTests {
    private ChangeTests() {
    }

    static void all(Check check) {
        check.test("promise 41: prefer", ChangeTests::prefer);
        check.test("promise 42: swap", ChangeTests::swap);
        check.test("promise 43: turn", ChangeTests::turn);
        check.test("promise 44: setBack", ChangeTests::setBack);
        check.test("promise 45: come", ChangeTests::come);
        check.test("promise 45: come needs a NAME", ChangeTests::comeNeedsName);
        check.test("promise 45: come with eleven cars", ChangeTests::comeFull);
        check.test("promise 46: go", ChangeTests::go);
        check.test("promise 46: go is refused if another car prefers the last spot", ChangeTests::goRefused);
        check.test("promise 47: sort", ChangeTests::sort);
        check.test("promise 48: reverse", ChangeTests::reverse);
        check.test("promises 41 to 48: a call that throws changes nothing", ChangeTests::throwsNothing);
    }

    private static ParkingCircle four() {
        return Circles.of(0, 2, 2, 0, 2);
    }

    private static void prefer(Check check) {
        ParkingCircle x = four();
        check.same("prefer", x.prefer(1, 4), 2);
        check.same("prefer", x.prefer(2, 0), 0);
        check.same("prefer", x.prefer(1, 3), 4);
        check.same("state", Circles.state(x), "a b c d / 2 3 0 2 / 0");
        check.same("spots", Circles.spots(x), "2 3 0 4");
        check.same("accounts", Circles.accounts(x), "3 0 0 0 0");
        for (int off : new int[] {-1, 5, 12, Integer.MIN_VALUE, Integer.MAX_VALUE}) {
            check.noArgument("preference " + off, () -> x.prefer(0, off));
            check.noIndex("car " + off, () -> x.prefer(off, 0));
            check.noIndex("the car comes first", () -> x.prefer(off, off));
        }
        check.noIndex("car 4", () -> x.prefer(4, 4));
        check.noIndex("no car", () -> new ParkingCircle().prefer(0, 0));
    }

    private static void swap(Check check) {
        ParkingCircle x = Circles.of(0, 3, 1, 2);
        check.same("swap", x.swap(0), true);
        check.same("state", Circles.state(x), "b a c / 1 3 2 / 0");
        check.same("swap", x.swap(1), true);
        check.same("state", Circles.state(x), "b c a / 1 2 3 / 0");
        check.same("swap", x.swap(2), false);
        check.same("refusal", x.refusal(), 3);
        check.same("state", Circles.state(x), "b c a / 1 2 3 / 0");
        check.same("accounts", Circles.accounts(x), "2 1 0 0 0");
        check.same("one car", Circles.of(0, 0).swap(0), false);
        for (int off : new int[] {-1, 3, 4, 11, Integer.MIN_VALUE, Integer.MAX_VALUE}) {
            check.noIndex("swap " + off, () -> x.swap(off));
        }
        check.noIndex("no car", () -> new ParkingCircle().swap(0));
        ParkingCircle eleven = Circles.of(0, 0, 0, 0, 0, 0, 0, 0, 0, 0, 1, 2);
        check.same("the last but one", eleven.swap(9), true);
        check.same("the last one", eleven.swap(10), false);
        check.same("state", Circles.preferences(eleven), "0 0 0 0 0 0 0 0 0 2 1");
    }

    private static void turn(Check check) {
        ParkingCircle x = four();
        check.same("by 0", x.turn(0), 3);
        check.same("by 3", x.turn(3), 0);
        check.same("state", Circles.state(x), "a b c d / 0 0 3 0 / 0");
        check.same("by 99", x.turn(99), 1);
        check.same("state", Circles.state(x), "a b c d / 4 4 2 4 / 0");
        check.same("by 5", x.turn(5), 1);
        check.same("accounts", Circles.accounts(x), "4 0 0 0 0");
        check.same("none", new ParkingCircle().turn(7), 0);
        for (int off : new int[] {-1, 100, 101, Integer.MIN_VALUE, Integer.MAX_VALUE}) {
            check.noArgument("turn " + off, () -> x.turn(off));
        }
    }

    private static void setBack(Check check) {
        ParkingCircle x = four();
        check.same("setBack", x.setBack(1), 0);
        check.same("spots", Circles.spots(x), "2 1 0 3");
        check.same("setBack", x.setBack(5), 1);
        check.same("spots", Circles.spots(x), "2 1 0 4");
        check.same("setBack", x.setBack(5), 5);
        check.same("setBack", x.setBack(0), 5);
        check.same("accounts", Circles.accounts(x), "4 0 0 0 0");
        for (int off : new int[] {-1, 6, 7, Integer.MIN_VALUE, Integer.MAX_VALUE}) {
            check.noArgument("setBack " + off, () -> x.setBack(off));
        }
        check.same("BACK", x.setting(2), 0);
    }

    private static void come(Check check) {
        ParkingCircle x = new ParkingCircle();
        check.same("come", Circles.come(x, "b", 1), true);
        check.noArgument("the buffer is empty then", () -> x.truncate(1));
        check.same("come", Circles.come(x, "abcdefgh", 2), true);
        check.same("come", Circles.come(x, "a", 0), true);
        check.same("state", Circles.state(x), "b abcdefgh a / 1 2 0 / 0");
        check.same("SPOTS", x.setting(1), 4);
        check.same("accounts", Circles.accounts(x), "3 0 3 0 0");
        check.same("undo", x.undo(), 2);
        check.same("state", Circles.state(x), "b abcdefgh / 1 2 / 0");
        check.noArgument("the buffer stays empty", () -> x.truncate(1));
        for (int off : new int[] {-1, 4, 5, 12, Integer.MIN_VALUE, Integer.MAX_VALUE}) {
            Circles.feed(x, "c");
            check.noArgument("come " + off, () -> x.come(off));
            check.same("the buffer stays", x.truncate(1), 1);
        }
        check.same("come", x.come(3), true);
        check.same("accounts", Circles.accounts(x), "4 0 4 0 1");
    }

    private static void comeNeedsName(Check check) {
        String[] wrong = {"", "abcdefghi", "a ", " a", "a b", "a1", "1", "A", "a\n", "a;", "`", "{", "a\0", "\0", "abcdefg!",
            "abcdefgh\0", "a!", "b", "\u00e1", "\u00ff"};
        for (String name : wrong) {
            ParkingCircle x = Circles.of(1, 0);
            x.prefer(0, 1);
            Circles.come(x, "b", 0);
            Circles.feed(x, name);
            check.same("come", x.come(0), false);
            check.same("refusal", x.refusal(), 2);
            check.same("the buffer stays", x.truncate(name.length()), name.length());
            check.noArgument("the buffer stays", () -> x.truncate(name.length() + 1));
            check.same("state", Circles.state(x), "a b / 1 0 / 1");
            check.same("accounts", Circles.accounts(x), "2 1 1 0 0");
            check.noArgument("the preference comes first", () -> x.come(4));
            check.same("accounts", Circles.accounts(x), "2 1 1 0 0");
            check.same("undo", x.undo(), 1);
        }
        ParkingCircle y = Circles.of(0, 0);
        String most = "azazazaz";
        check.same("come", Circles.come(y, most, 0), true);
        check.same("come again", Circles.come(y, most, 0), false);
        check.same("one letter less", Circles.come(y, "azazaza", 0), true);
        check.same("names", Circles.names(y), "a azazazaz azazaza");
    }

    private static void comeFull(Check check) {
        ParkingCircle x = Circles.of(0, 0, 0, 0, 0, 0, 0, 0, 0, 0, 0);
        check.same("the eleventh", Circles.come(x, "k", 11), true);
        check.same("SPOTS", x.setting(1), 12);
        Circles.feed(x, "l");
        check.noArgument("a spot that there is not", () -> x.come(13));
        check.same("refusal", x.refusal(), 0);
        check.same("the twelfth", x.come(12), false);
        check.same("refusal", x.refusal(), 1);
        check.same("the buffer stays", x.truncate(1), 1);
        check.same("no NAME", Circles.come(x, "", 0), false);
        check.same("refusal", x.refusal(), 1);
        check.same("the NAME of a car", Circles.come(x, "a", 0), false);
        check.same("refusal", x.refusal(), 1);
        check.same("accounts", Circles.accounts(x), "1 3 1 0 0");
        check.same("cars", x.setting(0), 11);
    }

    private static void go(Check check) {
        ParkingCircle x = Circles.of(2, 3, 1, 2, 0);
        check.same("go", x.go(1), true);
        check.same("state", Circles.state(x), "a c d / 3 2 0 / 2");
        check.same("go, as it alone prefers the last spot", x.go(0), true);
        check.same("state", Circles.state(x), "c d / 2 0 / 2");
        check.same("go", x.go(1), false);
        check.same("go", x.go(0), true);
        check.same("go", x.go(0), true);
        check.same("state", Circles.state(x), " /  / 2");
        check.same("SPOTS", x.setting(1), 1);
        check.same("accounts", Circles.accounts(x), "4 1 0 4 0");
        check.noIndex("none there", () -> x.go(0));
        check.same("undo", x.undo(), 3);
        check.same("state", Circles.state(x), "d / 0 / 2");
        for (int off : new int[] {-1, 4, 5, 11, Integer.MIN_VALUE, Integer.MAX_VALUE}) {
            check.noIndex("go " + off, () -> four().go(off));
        }
        ParkingCircle eleven = Circles.of(0, 0, 1, 2, 3, 4, 5, 6, 7, 8, 9, 10);
        check.same("go", eleven.go(0), true);
        check.same("names", Circles.names(eleven), "b c d e f g h i j k");
        check.same("go", eleven.go(9), true);
        check.same("preferences", Circles.preferences(eleven), "1 2 3 4 5 6 7 8 9");
    }

    private static void goRefused(Check check) {
        ParkingCircle x = Circles.of(0, 3, 3, 0);
        for (int car = 0; car < 3; car++) {
            check.same("go", x.go(car), false);
            check.same("refusal", x.refusal(), 4);
        }
        check.same("state", Circles.state(x), "a b c / 3 3 0 / 0");
        check.same("accounts", Circles.accounts(x), "0 3 0 0 0");
        check.same("undo", x.undo(), -1);
        x.prefer(0, 2);
        check.same("another car prefers it", x.go(0), false);
        check.same("another car prefers it", x.go(2), false);
        check.same("it alone prefers it", x.go(1), true);
        check.same("state", Circles.state(x), "a c / 2 0 / 0");
    }

    private static void sort(Check check) {
        ParkingCircle x = four();
        check.same("sort", x.sort(), 3);
        check.same("state", Circles.state(x), "c a b d / 0 2 2 2 / 0");
        check.same("sort again", x.sort(), 0);
        ParkingCircle y = Circles.of(1, 3, 1, 2, 0, 1);
        check.same("sort", y.sort(), 4);
        check.same("state", Circles.state(y), "d b e c a / 0 1 1 2 3 / 1");
        check.same("none", new ParkingCircle().sort(), 0);
        check.same("accounts", Circles.accounts(x), "2 0 0 0 0");
        ParkingCircle eleven = Circles.of(0, 10, 9, 8, 7, 6, 5, 4, 3, 2, 1, 0);
        check.same("eleven", eleven.sort(), 10);
        check.same("names", Circles.names(eleven), "k j i h g f e d c b a");
    }

    private static void reverse(Check check) {
        ParkingCircle x = Circles.of(1, 3, 1, 2, 0, 1);
        check.same("reverse", x.reverse(), 3);
        check.same("state", Circles.state(x), "e d c b a / 1 0 2 1 3 / 1");
        check.same("reverse", x.reverse(), 4);
        check.same("state", Circles.state(x), "a b c d e / 3 1 2 0 1 / 1");
        ParkingCircle y = Circles.of(0, 0, 0, 1);
        check.same("LUCKY cars now", y.setting(4), 1);
        check.same("LUCKY cars then", y.reverse(), 2);
        check.same("none", new ParkingCircle().reverse(), 0);
        check.same("accounts", Circles.accounts(x), "2 0 0 0 0");
        check.same("even", Circles.of(0, 2, 2, 0, 2).reverse(), 2);
    }

    private static void throwsNothing(Check check) {
        ParkingCircle x = Circles.of(3, 3, 1, 2);
        x.turn(1);
        x.swap(2);
        check.noIndex("prefer", () -> x.prefer(3, 0));
        check.noArgument("prefer", () -> x.prefer(0, 4));
        check.noIndex("swap", () -> x.swap(-1));
        check.noArgument("turn", () -> x.turn(-1));
        check.noArgument("setBack", () -> x.setBack(6));
        check.noArgument("come", () -> x.come(5));
        check.noIndex("go", () -> x.go(3));
        check.same("state", Circles.state(x), "a b c / 0 2 3 / 3");
        check.same("accounts", Circles.accounts(x), "1 1 0 0 0");
        check.same("refusal", x.refusal(), 3);
        check.same("undo", x.undo(), 0);
        check.same("state", Circles.state(x), "a b c / 3 1 2 / 3");
    }
}
