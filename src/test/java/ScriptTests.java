/** Promise 5, with 6 and 7: scripts. */
final class ScriptTests {
    private ScriptTests() {
    }

    static void all(Check check) {
        check.test("promise 5: each command is as its method", ScriptTests::commands);
        check.test("promise 5: an empty script", ScriptTests::emptyScript);
        check.test("promise 5: repeat", ScriptTests::repeats);
        check.test("promise 5: a NAME is looked for when its command is done", ScriptTests::namesWhenDone);
        check.test("promise 5: a script ends at a NAME that no car has", ScriptTests::unknownNames);
        check.test("promise 5: a script ends where a method would throw", ScriptTests::wouldThrow);
        check.test("promise 5: a script ends at a refusal", ScriptTests::refusals);
        check.test("promise 5: a script ends within brackets as a whole", ScriptTests::endsWithinBrackets);
        check.test("promise 5: 40 commands at most", ScriptTests::fortyCommands);
        check.test("promise 5: a script is undone as one", ScriptTests::undoneAsOne);
        check.test("promise 5: an error changes the buffer and the error alone", ScriptTests::errorChangesNothing);
        check.test("promises 5, 6, 7: code 1", ScriptTests::grammarErrors);
        check.test("promises 5, 6, 7: code 2", ScriptTests::rangeErrors);
        check.test("promises 5, 6, 7: code 3, a repeat within two others", ScriptTests::depthErrors);
        check.test("promises 5, 6, 7: code 5, a 31st command", ScriptTests::commandErrors);
    }

    static ParkingCircle three() {
        return Circles.of(0, 3, 1, 2);
    }

    static void does(Check check, ParkingCircle x, String script, int done, String state) {
        check.same("commands of " + script, Circles.script(x, script), done);
        check.same("state behind " + script, Circles.state(x), state);
        check.same("error of " + script, Circles.error(x), "0 at -1");
        check.noArgument("the buffer is empty behind " + script, () -> x.truncate(1));
    }

    private static void commands(Check check) {
        does(check, three(), "prefer b 0;", 1, "a b c / 3 0 2 / 0");
        does(check, three(), "prefer c3;", 1, "a b c / 3 1 3 / 0");
        does(check, three(), "swap a;", 1, "b a c / 1 3 2 / 0");
        does(check, three(), "swap b;", 1, "a c b / 3 2 1 / 0");
        does(check, three(), "turn 99;", 1, "a b c / 2 0 1 / 0");
        does(check, three(), "turn0;", 1, "a b c / 3 1 2 / 0");
        does(check, three(), "back 5;", 1, "a b c / 3 1 2 / 5");
        does(check, three(), "come z 4;", 1, "a b c z / 3 1 2 4 / 0");
        does(check, three(), "come sort 0;", 1, "a b c sort / 3 1 2 0 / 0");
        does(check, three(), "go a;", 1, "b c / 1 2 / 0");
        does(check, three(), "sort;", 1, "b c a / 1 2 3 / 0");
        does(check, three(), "reverse;", 1, "c b a / 2 1 3 / 0");
        ParkingCircle x = three();
        does(check, x, "prefer a 0;swap a;\n turn 1 ; back 2;come d 0;go b;sort;reverse;", 8, "c a d / 3 1 0 / 2");
        check.same("accounts", Circles.accounts(x), "8 0 1 1 0");
        check.same("refusal", x.refusal(), 0);
    }

    private static void emptyScript(Check check) {
        ParkingCircle x = three();
        does(check, x, "", 0, "a b c / 3 1 2 / 0");
        does(check, x, " \n ", 0, "a b c / 3 1 2 / 0");
        check.same("accounts", Circles.accounts(x), "0 0 0 0 0");
        check.same("undo", x.undo(), 1);
        check.same("undo", x.undo(), 0);
        check.same("undo", x.undo(), -1);
        check.same("accounts", Circles.accounts(x), "0 0 0 0 2");
    }

    private static void repeats(Check check) {
        does(check, three(), "repeat 3(turn 1;);", 3, "a b c / 2 0 1 / 0");
        does(check, three(), "repeat 1 ( ) ; sort;", 1, "b c a / 1 2 3 / 0");
        does(check, three(), "repeat 20(repeat 20();repeat 20(););", 0, "a b c / 3 1 2 / 0");
        does(check, three(), "repeat 2(turn 1;repeat 3(swap a;swap b;);back 1;);", 16, "a b c / 1 3 0 / 1");
        does(check, three(), "repeat 2(repeat 2(turn 1;);repeat 3(turn 1;););turn 1;", 11, "a b c / 2 0 1 / 0");
        does(check, three(), "repeat 2(turn 2;);turn 1;", 3, "a b c / 0 2 3 / 0");
        does(check, three(), "repeat 20(turn 1;);repeat 5(repeat 3(turn 1;););", 35, "a b c / 2 0 1 / 0");
        ParkingCircle x = three();
        Circles.script(x, "repeat 2(turn 2;repeat 2(sort;););");
        check.same("repeat is no act", Circles.accounts(x), "6 0 0 0 0");
    }

    private static void namesWhenDone(Check check) {
        does(check, three(), "come z 0;prefer z 4;swap c;go c;", 3, "a b z c / 3 1 4 2 / 0");
        does(check, three(), "come z 0;swap c;go z;come z 1;", 4, "a b c z / 3 1 2 1 / 0");
        does(check, three(), "swap a;swap a;", 2, "b c a / 1 2 3 / 0");
        does(check, three(), "go a;come a 3;", 2, "b c a / 1 2 3 / 0");
    }

    private static void unknownNames(Check check) {
        String[] commands = {"prefer z 0;", "swap z;", "go z;", "prefer z 999;", "go ab;", "swap swap;"};
        for (String command : commands) {
            ParkingCircle x = three();
            does(check, x, "turn 1;" + command + "turn 1;", 1, "a b c / 0 2 3 / 0");
            check.same("accounts behind " + command, Circles.accounts(x), "1 0 0 0 0");
            check.same("refusal behind " + command, x.refusal(), 0);
            check.same("undo", x.undo(), 0);
            check.same("state", Circles.state(x), "a b c / 3 1 2 / 0");
        }
    }

    private static void wouldThrow(Check check) {
        String[] commands = {"prefer a 4;", "prefer a 999;", "turn 100;", "turn 999;", "back 6;", "back 999;", "come z 5;",
            "come z 999;", "come a 5;"};
        for (String command : commands) {
            ParkingCircle x = three();
            does(check, x, command + "turn 1;", 0, "a b c / 3 1 2 / 0");
            check.same("accounts behind " + command, Circles.accounts(x), "0 0 0 0 0");
            check.same("refusal behind " + command, x.refusal(), 0);
            check.same("undo", x.undo(), 0);
        }
        does(check, three(), "prefer a 3;back 5;turn 99;come z 4;", 4, "a b c z / 2 0 1 4 / 5");
    }

    private static void refusals(Check check) {
        refuses(check, three(), "swap c;", 3);
        refuses(check, three(), "come a 0;", 2);
        refuses(check, three(), "come c 4;", 2);
        refuses(check, three(), "go b;", 4);
        ParkingCircle full = Circles.of(0, 0, 0, 0, 0, 0, 0, 0, 0, 0, 0, 0);
        refuses(check, full, "come z 12;", 1);
        refuses(check, full, "come a 0;", 1);
        String before = Circles.state(full);
        does(check, full, "come z 13;", 0, before);
        check.same("that is no refusal", full.account(1), 2);
    }

    private static void refuses(Check check, ParkingCircle x, String command, int reason) {
        int refused = x.account(1);
        int acts = x.account(0);
        int cars = x.setting(0);
        check.same("commands behind " + command, Circles.script(x, "turn 0;" + command + "turn 1;turn 1;"), 1);
        check.same("refusal of " + command, x.refusal(), reason);
        check.same("refusals behind " + command, x.account(1), refused + 1);
        check.same("acts behind " + command, x.account(0), acts + 1);
        check.same("cars behind " + command, x.setting(0), cars);
        check.same("cars that came or went", x.account(2) + x.account(3), 0);
    }

    private static void endsWithinBrackets(Check check) {
        ParkingCircle x = three();
        does(check, x, "repeat 5(repeat 5(turn 1;swap b;go z;);turn 1;);turn 1;", 2, "a c b / 0 3 2 / 0");
        check.same("accounts", Circles.accounts(x), "2 0 0 0 0");
        ParkingCircle y = three();
        does(check, y, "repeat 3(swap a;swap b;);turn 1;", 7, "a b c / 0 2 3 / 0");
        ParkingCircle z = three();
        does(check, z, "repeat 3(swap a;);turn 1;", 2, "b c a / 1 2 3 / 0");
        check.same("accounts", Circles.accounts(z), "2 1 0 0 0");
        check.same("refusal", z.refusal(), 3);
    }

    private static void fortyCommands(Check check) {
        does(check, three(), "repeat 20(turn 1;turn 1;);", 40, "a b c / 3 1 2 / 0");
        ParkingCircle x = three();
        does(check, x, "repeat 20(turn 1;turn 1;);swap c;turn 1;", 40, "a b c / 3 1 2 / 0");
        check.same("what is behind is not refused", Circles.accounts(x), "40 0 0 0 0");
        does(check, three(), "turn 1;repeat 20(turn 1;turn 1;);", 40, "a b c / 3 1 2 / 0");
        does(check, three(), "repeat 20(repeat 20(turn 1;);swap a;);", 40, "b a c / 0 2 1 / 0");
        does(check, three(), "repeat 13(turn 1;turn 1;turn 1;);swap a;swap b;", 40, "b a c / 0 2 1 / 0");
        ParkingCircle y = three();
        does(check, y, "repeat 20(turn 1;turn 0;);", 40, "a b c / 3 1 2 / 0");
        does(check, y, "turn 1;", 1, "a b c / 0 2 3 / 0");
        check.same("acts", y.account(0), 41);
    }

    private static void undoneAsOne(Check check) {
        ParkingCircle x = three();
        x.prefer(0, 0);
        does(check, x, "repeat 5(turn 1;back 3;);come z 0;go b;", 12, "a c z / 1 3 0 / 3");
        check.same("undo", x.undo(), 1);
        check.same("state", Circles.state(x), "a b c / 0 1 2 / 0");
        check.same("accounts", Circles.accounts(x), "13 0 1 1 1");
        check.same("undo", x.undo(), 0);
        check.same("state", Circles.state(x), "a b c / 3 1 2 / 0");
    }

    private static void errorChangesNothing(Check check) {
        ParkingCircle x = three();
        x.turn(1);
        x.swap(2);
        Circles.feed(x, "turn 1;swap a;turn 1 1;");
        check.noArgument("runScript", () -> x.runScript());
        check.same("error", Circles.error(x), "1 at 21");
        check.same("state", Circles.state(x), "a b c / 0 2 3 / 0");
        check.same("accounts", Circles.accounts(x), "1 1 0 0 0");
        check.noArgument("the buffer is empty", () -> x.truncate(1));
        check.same("undo", x.undo(), 0);
        check.same("undo", x.undo(), -1);
        Circles.feed(x, "turn 1;repeat 2(repeat 3(turn 2;");
        check.noArgument("brackets that stay open", () -> x.runScript());
        does(check, x, "turn 1;", 1, "a b c / 0 2 3 / 0");
    }

    static void fails(Check check, String script, int code, int position) {
        ParkingCircle x = three();
        Circles.feed(x, script);
        check.noArgument("runScript of " + script, () -> x.runScript());
        check.same("error of " + script, Circles.error(x), code + " at " + position);
        check.same("state behind " + script, Circles.state(x), "a b c / 3 1 2 / 0");
        check.same("accounts behind " + script, Circles.accounts(x), "0 0 0 0 0");
        check.noArgument("the buffer is empty behind " + script, () -> x.truncate(1));
        check.same("undo behind " + script, x.undo(), -1);
    }

    private static void grammarErrors(Check check) {
        fails(check, "park 0;", 1, 0);
        fails(check, "sort", 1, 4);
        fails(check, "sort \n", 1, 6);
        fails(check, "sort;sort)", 1, 9);
        fails(check, "sort;;", 1, 5);
        fails(check, ")", 1, 0);
        fails(check, "(sort;)", 1, 0);
        fails(check, "7;", 1, 0);
        fails(check, "sort 1;", 1, 5);
        fails(check, "reverse a;", 1, 8);
        fails(check, "prefer 1 a;", 1, 7);
        fails(check, "prefer a;", 1, 8);
        fails(check, "prefer a b;", 1, 9);
        fails(check, "prefer a 1 1;", 1, 11);
        fails(check, "swap;", 1, 4);
        fails(check, "swap 1;", 1, 5);
        fails(check, "swap a 1;", 1, 7);
        fails(check, "turn a;", 1, 5);
        fails(check, "turn;", 1, 4);
        fails(check, "back;", 1, 4);
        fails(check, "back", 1, 4);
        fails(check, "come 1;", 1, 5);
        fails(check, "come a;", 1, 6);
        fails(check, "go 1;", 1, 3);
        fails(check, "go a 1;", 1, 5);
        fails(check, "repeat(sort;);", 1, 6);
        fails(check, "repeat 2 sort;", 1, 9);
        fails(check, "repeat 2;", 1, 8);
        fails(check, "repeat 2(sort;)", 1, 15);
        fails(check, "repeat 2(sort;) sort;", 1, 16);
        fails(check, "repeat 2(sort)", 1, 13);
        fails(check, "repeat 2(sort;", 1, 14);
        fails(check, "repeat 2(repeat 2(sort;);", 1, 25);
        fails(check, "repeat 2(sort;));", 1, 15);
        fails(check, "repeat 2(sort;););", 1, 16);
        fails(check, "repeat 2", 1, 8);
        fails(check, "Sort;", 1, 0);
        fails(check, "sort!", 1, 4);
        fails(check, "swap abcdefghi;", 1, 5);
        fails(check, "sortsorts;", 1, 0);
        fails(check, "turn 0001;", 1, 5);
        fails(check, "repeat 0001(sort;);", 1, 7);
        fails(check, "foo;", 1, 0);
    }

    private static void rangeErrors(Check check) {
        fails(check, "repeat 0(sort;);", 2, 7);
        fails(check, "repeat 21(sort;);", 2, 7);
        fails(check, "sort;repeat 999", 2, 12);
        fails(check, "repeat 2(repeat 00(", 2, 16);
        does(check, three(), "repeat 20(turn 1;);", 20, "a b c / 3 1 2 / 0");
        does(check, three(), "repeat 001(turn 001;);", 1, "a b c / 0 2 3 / 0");
    }

    private static void depthErrors(Check check) {
        fails(check, "repeat 2(repeat 2(repeat 2(sort;););));", 3, 18);
        fails(check, "repeat 2(repeat 2(sort;);repeat 2(\n repeat", 3, 36);
        fails(check, "repeat 1(repeat 1(repeat 99", 3, 18);
        fails(check, "repeat 1(repeat 1(" + "sort;".repeat(28) + "repeat", 3, 18 + 5 * 28);
        does(check, three(), "repeat 1(repeat 1(turn 1;);repeat 1(turn 1;););repeat 1(repeat 1(turn 1;););", 3,
                "a b c / 2 0 1 / 0");
    }

    private static void commandErrors(Check check) {
        does(check, three(), "turn 1;".repeat(30), 30, "a b c / 1 3 0 / 0");
        fails(check, "turn 1;".repeat(30) + "sort", 5, 210);
        fails(check, "turn 1;".repeat(30) + "repeat 99", 5, 210);
        fails(check, "turn 1;".repeat(30) + "foo", 1, 210);
        fails(check, "turn 1;".repeat(30) + ";", 1, 210);
        does(check, three(), "turn 1;".repeat(29) + "repeat 3();", 29, "a b c / 0 2 3 / 0");
        does(check, three(), "repeat 1(" + "turn 1;".repeat(29) + ");\n", 29, "a b c / 0 2 3 / 0");
        fails(check, "repeat 1(" + "turn 1;".repeat(29) + "turn 1;", 5, 9 + 7 * 29);
        fails(check, "repeat 1(" + "turn 1;".repeat(29) + "); turn 1;", 5, 9 + 7 * 29 + 3);
        fails(check, "repeat 2();".repeat(30) + "repeat 2();", 5, 330);
    }
}
