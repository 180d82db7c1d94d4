/** Promises 49 to 55: accounts, undo, reports, saving. */
final class KeepingTests {
    private KeepingTests() {
    }

    static void all(Check check) {
        check.test("promise 49: refusal", KeepingTests::refusal);
        check.test("promise 50: account", KeepingTests::account);
        check.test("promise 51: undo undoes each change", KeepingTests::undoEach);
        check.test("promise 51: undo keeps six calls", KeepingTests::undoSix);
        check.test("promise 51: a refused change is not kept", KeepingTests::undoRefused);
        check.test("promise 51: what undo leaves as it is", KeepingTests::undoLeaves);
        check.test("promise 52: report", KeepingTests::report);
        check.test("promise 53: reportByte", KeepingTests::reportByte);
        check.test("promise 54: save", KeepingTests::save);
        check.test("promise 55: restore", KeepingTests::restore);
    }

    private static ParkingCircle three() {
        return Circles.of(0, 3, 1, 2);
    }

    private static void refusal(Check check) {
        ParkingCircle x = three();
        check.same("none", x.refusal(), 0);
        x.swap(2);
        check.same("swap", x.refusal(), 3);
        x.go(1);
        check.same("go", x.refusal(), 4);
        x.come(0);
        check.same("come", x.refusal(), 2);
        x.turn(1);
        x.undo();
        check.same("it stays", x.refusal(), 2);
        Circles.script(x, "swap c;");
        check.same("in a script", x.refusal(), 3);
        Circles.script(x, "go z;");
        check.same("no refusal", x.refusal(), 3);
        Circles.feed(x, "park 0;");
        x.readText();
        check.same("it stays", x.refusal(), 3);
        x.save();
        x.come(1);
        x.restore();
        check.same("it stays", x.refusal(), 2);
        ParkingCircle full = Circles.of(0, 0, 0, 0, 0, 0, 0, 0, 0, 0, 0, 0);
        full.come(0);
        check.same("full", full.refusal(), 1);
    }

    private static void account(Check check) {
        ParkingCircle x = three();
        x.prefer(0, 0);
        x.swap(0);
        x.turn(0);
        x.setBack(0);
        Circles.come(x, "d", 0);
        x.go(0);
        x.sort();
        x.reverse();
        check.same("each change once", Circles.accounts(x), "8 0 1 1 0");
        x.swap(2);
        x.come(0);
        check.same("refusals", Circles.accounts(x), "8 2 1 1 0");
        Circles.script(x, "repeat 2(come x 0;go x;);swap c;go zz;");
        check.same("a script", Circles.accounts(x), "13 2 3 3 0");
        x.undo();
        x.undo();
        check.same("undone ones stay", Circles.accounts(x), "13 2 3 3 2");
        Circles.feed(x, "park 2;car a 0;car b 0;");
        x.readText();
        check.same("a text", Circles.accounts(x), "13 2 3 3 2");
        x.undo();
        x.save();
        x.restore();
        check.same("nothing to undo", Circles.accounts(x), "13 2 3 3 2");
        for (int what : new int[] {-1, 5, 6, Integer.MIN_VALUE, Integer.MAX_VALUE}) {
            check.noArgument("account " + what, () -> x.account(what));
        }
    }

    private static void undoEach(Check check) {
        undoes(check, x -> x.prefer(0, 1));
        undoes(check, x -> x.prefer(0, 3));
        undoes(check, x -> x.swap(1));
        undoes(check, x -> x.turn(3));
        undoes(check, x -> x.turn(0));
        undoes(check, x -> x.setBack(4));
        undoes(check, x -> x.setBack(0));
        undoes(check, x -> Circles.come(x, "z", 4));
        undoes(check, x -> x.go(0));
        undoes(check, x -> x.sort());
        undoes(check, x -> x.reverse());
        undoes(check, x -> Circles.script(x, "back 3;come z 0;"));
        undoes(check, x -> Circles.script(x, "go z;"));
        undoes(check, x -> Circles.script(x, "swap c;"));
    }

    interface Change {
        void on(ParkingCircle x);
    }

    static void undoes(Check check, Change change) {
        ParkingCircle x = three();
        change.on(x);
        check.same("undo", x.undo(), 0);
        check.same("undone", x.account(4), 1);
        check.same("state", Circles.state(x), "a b c / 3 1 2 / 0");
        check.same("spots", Circles.spots(x), "3 1 2");
        check.same("none left", x.undo(), -1);
        check.same("undone", x.account(4), 1);
        x.turn(3);
        x.setBack(2);
        change.on(x);
        check.same("undo", x.undo(), 2);
        check.same("state", Circles.state(x), "a b c / 2 0 1 / 2");
    }

    private static void undoSix(Check check) {
        ParkingCircle x = Circles.of(0, 0, 0, 0, 0, 0, 0, 0, 0, 0);
        for (int preference = 1; preference <= 8; preference++) {
            x.prefer(4, preference);
        }
        for (int left = 5; left >= 0; left--) {
            check.same("undo", x.undo(), left);
            check.same("preference", x.car(4, 0), left + 2);
        }
        check.same("undo", x.undo(), -1);
        check.same("preference", x.car(4, 0), 2);
        check.same("accounts", Circles.accounts(x), "8 0 0 0 6");
        x.turn(1);
        check.same("undo", x.undo(), 0);
        Circles.script(x, "");
        x.turn(1);
        x.turn(1);
        check.same("undo", x.undo(), 2);
        x.sort();
        x.sort();
        check.same("all of them", Circles.undoAll(x), 4);
        check.same("preference", x.car(4, 0), 2);
    }

    private static void undoRefused(Check check) {
        ParkingCircle x = three();
        for (int i = 0; i < 6; i++) {
            x.turn(1);
        }
        x.swap(2);
        x.come(0);
        Circles.feed(x, "a");
        x.come(0);
        x.go(0);
        x.prefer(1, 3);
        x.go(0);
        check.same("seven changes", x.account(0), 7);
        for (int left = 5; left >= 0; left--) {
            check.same("undo", x.undo(), left);
        }
        check.same("undo", x.undo(), -1);
        check.same("state", Circles.state(x), "a b c / 0 2 3 / 0");
    }

    private static void undoLeaves(Check check) {
        ParkingCircle x = three();
        x.save();
        x.turn(1);
        int length = x.report();
        x.swap(2);
        Circles.feed(x, "park 0");
        check.noArgument("readText", () -> x.readText());
        Circles.feed(x, "abc");
        check.same("undo", x.undo(), 0);
        check.same("report", Circles.lastReport(x, length), "a! . b! c!\n");
        check.same("buffer", x.truncate(3), 3);
        check.same("error", Circles.error(x), "1 at 6");
        check.same("accounts", Circles.accounts(x), "1 1 0 0 1");
        check.same("refusal", x.refusal(), 3);
        x.setBack(1);
        x.restore();
        check.same("undo is forgotten", x.undo(), -1);
        check.same("state", Circles.state(x), "a b c / 3 1 2 / 0");
    }

    private static void report(Check check) {
        check.same("four", Circles.reported(Circles.of(0, 2, 2, 0, 2)), "c! . a! b d\n");
        check.same("none", Circles.reported(new ParkingCircle()), ".\n");
        check.same("one", Circles.reported(Circles.of(0, 1)), ". a!\n");
        check.same("with BACK", Circles.reported(Circles.of(2, 1, 1, 1)), "b a! . c\n");
        ParkingCircle x = Circles.read("park 2;car abcdefgh 2;car z 2;");
        check.same("long NAMES", Circles.reported(x), "z . abcdefgh!\n");
        StringBuilder text = new StringBuilder("park 11;");
        StringBuilder due = new StringBuilder();
        for (int car = 0; car < 11; car++) {
            String name = "qwertyu" + (char) ('a' + car);
            text.append("car ").append(name).append(' ').append(car).append(';');
            due.append(name).append("! ");
        }
        ParkingCircle eleven = Circles.read(text.toString());
        check.same("the longest one", Circles.reported(eleven), due + ".\n");
        check.same("its bytes", eleven.report(), 112);
        eleven.prefer(0, 11);
        check.same("the GAP ahead", Circles.reported(eleven).substring(0, 4), ". qw");
    }

    private static void reportByte(Check check) {
        ParkingCircle x = Circles.of(0, 1);
        check.noIndex("no report yet", () -> x.reportByte(0));
        check.noIndex("no report yet", () -> x.reportByte(-1));
        check.same("bytes", x.report(), 5);
        int[] bytes = {46, 32, 97, 33, 10};
        for (int i = 0; i < 5; i++) {
            check.same("byte " + i, x.reportByte(i), bytes[i]);
        }
        for (int i : new int[] {-1, 5, 6, 111, 112, 120, Integer.MIN_VALUE, Integer.MAX_VALUE}) {
            check.noIndex("byte " + i, () -> x.reportByte(i));
        }
        x.prefer(0, 0);
        check.same("the latest report stays", Circles.lastReport(x, 5), ". a!\n");
        x.go(0);
        check.same("bytes", x.report(), 2);
        check.same("byte 1", x.reportByte(1), 10);
        check.noIndex("byte 2 was of the one before", () -> x.reportByte(2));
    }

    private static void save(Check check) {
        ParkingCircle x = three();
        check.same("save", x.save(), 3);
        x.setBack(2);
        Circles.come(x, "d", 4);
        check.same("save in place of what was saved", x.save(), 4);
        x.turn(2);
        x.setBack(3);
        x.go(3);
        check.same("restore", x.restore(), 4);
        check.same("state", Circles.state(x), "a b c d / 3 1 2 4 / 2");
        check.same("none", new ParkingCircle().save(), 0);
        ParkingCircle y = three();
        y.turn(1);
        y.save();
        check.same("save forgets nothing", y.undo(), 0);
        check.same("save is no change", Circles.accounts(y), "1 0 0 0 1");
    }

    private static void restore(Check check) {
        ParkingCircle x = three();
        check.noState("nothing saved", () -> x.restore());
        x.swap(2);
        x.save();
        x.sort();
        int length = x.report();
        Circles.feed(x, "repeat 0");
        check.noArgument("runScript", () -> x.runScript());
        Circles.feed(x, "xyz");
        check.same("restore", x.restore(), 3);
        check.same("state", Circles.state(x), "a b c / 3 1 2 / 0");
        check.same("undo is forgotten", x.undo(), -1);
        check.same("report", Circles.lastReport(x, length), ". b! c! a!\n");
        check.same("buffer", x.truncate(3), 3);
        check.same("error", Circles.error(x), "2 at 7");
        check.same("accounts", Circles.accounts(x), "1 1 0 0 0");
        check.same("refusal", x.refusal(), 3);
        x.go(0);
        check.same("what was saved stays", x.restore(), 3);
        check.same("state", Circles.state(x), "a b c / 3 1 2 / 0");
        ParkingCircle y = three();
        y.turn(1);
        check.noState("nothing saved", () -> y.restore());
        check.same("that forgets nothing", y.undo(), 0);
        ParkingCircle z = new ParkingCircle();
        z.save();
        Circles.come(z, "a", 0);
        check.same("a circle without cars", z.restore(), 0);
        check.same("cars", z.setting(0), 0);
    }
}
