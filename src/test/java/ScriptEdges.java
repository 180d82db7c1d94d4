/** The boundary cases of Terms 6 (scripts) and of the promise 5. */
final class ScriptEdges {
    private ScriptEdges() {
    }

    static void all(Sentences sentences) {
        commands(sentences);
        ends(sentences);
        errors(sentences);
        promises(sentences);
    }

    private static void commands(Sentences sentences) {
        sentences.term(6, "{ command \";\" }", ScriptEdges::noCommand);
        sentences.term(6, "are as the methods prefer(), swap(), turn(), setBack(), go(), sort() and reverse()",
                ScriptEdges::asTheMethods);
        sentences.term(6, "with the NAME of a car in place of its number", ScriptEdges::namesOfCars);
        sentences.term(6, "\"come\" is as come(), with the NAME of the new car", ScriptEdges::comes);
        sentences.term(6, "Numbers N are 0 to 999", ScriptEdges::numbers);
        sentences.term(6, "of \"repeat\" 1 to 20", ScriptEdges::times);
        sentences.term(6, "\"repeat\" does the commands in brackets several times", ScriptEdges::repeats);
    }

    private static void ends(Sentences sentences) {
        sentences.term(6, "A script ends as a whole, without counting it (what was done before stays)", ScriptEdges::endsAsWhole);
        sentences.term(6, "at a command with a NAME that no car has when it is done", ScriptEdges::noSuchName);
        sentences.term(6, "(but \"come\")", ScriptEdges::newName);
        sentences.term(6, "or whose method would throw an exception (these are no refusals)", ScriptEdges::wouldThrow);
        sentences.term(6, "or return false", ScriptEdges::returnsFalse);
        sentences.term(6, "It also ends early when 40 commands (\"repeat\" not counted) were done", ScriptEdges::forty);
        sentences.term(6, "(what is behind the 40th is not done)", ScriptEdges::behindFortieth);
    }

    private static void errors(Sentences sentences) {
        sentences.term(6, "Errors: 1 and 2 as above", ScriptEdges::oneAndTwo);
        sentences.term(6, "3: the first word of a \"repeat\" within two others", ScriptEdges::threeDeep);
        sentences.term(6, "5: the first word of a 31st command of the text", ScriptEdges::thirtyOne);
        sentences.term(6, "(\"repeat\" is one, too)", ScriptEdges::repeatIsCommand);
    }

    private static void promises(Sentences sentences) {
        sentences.promise(5, "empties it, also on an error", ScriptEdges::emptiesBuffer);
        sentences.promise(5, "Returns the number of commands that were done, \"repeat\" not counted.", ScriptEdges::numberDone);
        sentences.promise(5, "Throws `IllegalArgumentException` if the text has an error; only the buffer and the error change then",
                ScriptEdges::scriptWithError);
    }

    private static ParkingCircle three() {
        return ScriptTests.three();
    }

    private static ParkingCircle eleven() {
        return Circles.alike(0, 11, 0);
    }

    private static void does(Check check, ParkingCircle x, String script, int done, String state) {
        ScriptTests.does(check, x, script, done, state);
    }

    private static void fails(Check check, String script, int code, int position) {
        ScriptTests.fails(check, script, code, position);
    }

    private static void noCommand(Check check) {
        does(check, three(), "", 0, "a b c / 3 1 2 / 0");
        does(check, three(), " \n", 0, "a b c / 3 1 2 / 0");
        does(check, new ParkingCircle(), "", 0, " /  / 0");
        does(check, three(), "repeat 20();", 0, "a b c / 3 1 2 / 0");
        fails(check, ";", 1, 0);
    }

    private static void asTheMethods(Check check) {
        does(check, new ParkingCircle(), "turn 99;back 5;sort;reverse;", 4, " /  / 5");
        does(check, Circles.of(0, 1), "turn 0;sort;reverse;prefer a 1;back 0;go a;reverse;", 7, " /  / 0");
        does(check, Circles.rising(11), "reverse;swap k;sort;turn 99;prefer a 11;prefer k 0;", 6,
                "a b c d e f g h i j k / 11 4 5 6 7 8 9 10 11 0 0 / 0");
    }

    private static void namesOfCars(Check check) {
        does(check, three(), "prefer a 0;prefer c 3;", 2, "a b c / 0 1 3 / 0");
        does(check, three(), "swap a;swap a;", 2, "b c a / 1 2 3 / 0");
        does(check, Circles.read("park 2;car swap 0;car go 1;"), "swap swap;go go;", 2, "swap / 0 / 0");
        does(check, Circles.read("park 2;car abcdefgh 0;car abcdefgi 0;"), "go abcdefgi;", 1, "abcdefgh / 0 / 0");
        does(check, eleven(), "go k;go a;", 2, "b c d e f g h i j / 0 0 0 0 0 0 0 0 0 / 0");
    }

    private static void comes(Check check) {
        does(check, new ParkingCircle(), "come abcdefgh 1;come a 2;", 2, "abcdefgh a / 1 2 / 0");
        does(check, three(), "come z 4;", 1, "a b c z / 3 1 2 4 / 0");
        does(check, three(), "come z 5;", 0, "a b c / 3 1 2 / 0");
        does(check, three(), "come come 0;", 1, "a b c come / 3 1 2 0 / 0");
        String full = "a b c d e f g h i j k / 0 0 0 0 0 0 0 0 0 0 0 / 0";
        ParkingCircle x = eleven();
        does(check, x, "come z 12;", 0, full);
        check.same("refused", x.refusal(), 1);
        check.same("refusals", x.account(1), 1);
        does(check, x, "come z 13;", 0, full);
        check.same("that would throw", x.account(1), 1);
    }

    private static void numbers(Check check) {
        does(check, three(), "turn 0;turn 99;back 0;back 5;prefer a 0;prefer a 3;", 6, "a b c / 3 0 1 / 5");
        does(check, three(), "turn 999;", 0, "a b c / 3 1 2 / 0");
        does(check, three(), "turn 1;back 999;", 1, "a b c / 0 2 3 / 0");
        does(check, three(), "turn 1;prefer a 999;", 1, "a b c / 0 2 3 / 0");
        does(check, three(), "turn 1;come z 999;", 1, "a b c / 0 2 3 / 0");
        fails(check, "turn 1000;", 1, 5);
        fails(check, "turn -1;", 1, 5);
    }

    private static void times(Check check) {
        does(check, three(), "repeat 1(turn 1;);", 1, "a b c / 0 2 3 / 0");
        does(check, three(), "repeat 20(turn 1;);", 20, "a b c / 3 1 2 / 0");
        fails(check, "repeat 0(turn 1;);", 2, 7);
        fails(check, "repeat 000(turn 1;);", 2, 7);
        fails(check, "repeat 21(turn 1;);", 2, 7);
        fails(check, "repeat 999(turn 1;);", 2, 7);
        fails(check, "repeat 1000(turn 1;);", 1, 7);
    }

    private static void repeats(Check check) {
        does(check, three(), "repeat 20();sort;", 1, "b c a / 1 2 3 / 0");
        does(check, three(), "repeat 1(repeat 1(turn 1;););", 1, "a b c / 0 2 3 / 0");
        does(check, three(), "repeat 20(turn 1;);repeat 1(turn 1;);", 21, "a b c / 0 2 3 / 0");
        does(check, three(), "repeat 2(repeat 2(turn 1;);repeat 3(turn 1;););", 10, "a b c / 1 3 0 / 0");
        does(check, three(), "repeat 20(repeat 2(turn 1;););", 40, "a b c / 3 1 2 / 0");
        ParkingCircle x = three();
        does(check, x, "repeat 2(turn 1;turn 1;);", 4, "a b c / 3 1 2 / 0");
        does(check, x, "turn 1;turn 1;turn 1;", 3, "a b c / 2 0 1 / 0");
    }

    private static void endsAsWhole(Check check) {
        does(check, three(), "go z;turn 1;", 0, "a b c / 3 1 2 / 0");
        does(check, three(), "turn 1;go z;", 1, "a b c / 0 2 3 / 0");
        does(check, three(), "turn 1;repeat 2(turn 1;go z;turn 1;);turn 1;", 2, "a b c / 1 3 0 / 0");
        does(check, three(), "repeat 2(turn 1;repeat 2(turn 1;go z;turn 1;);turn 1;);turn 1;", 2, "a b c / 1 3 0 / 0");
        does(check, three(), "repeat 3(turn 1;swap a;);turn 1;", 5, "b c a / 0 1 2 / 0");
        ParkingCircle x = three();
        Circles.script(x, "turn 1;back 2;go z;sort;");
        check.same("acts that were done", Circles.accounts(x), "2 0 0 0 0");
        check.same("undone as one", x.undo(), 0);
        check.same("state", Circles.state(x), "a b c / 3 1 2 / 0");
    }

    private static void noSuchName(Check check) {
        for (String command : new String[] {"prefer z 0;", "swap z;", "go z;", "go aa;", "prefer z 999;"}) {
            ParkingCircle x = three();
            does(check, x, "turn 1;" + command + "turn 1;", 1, "a b c / 0 2 3 / 0");
            check.same("no refusal by " + command, Circles.accounts(x), "1 0 0 0 0");
            check.same("no reason by " + command, x.refusal(), 0);
        }
        does(check, new ParkingCircle(), "swap a;", 0, " /  / 0");
        does(check, three(), "go a;swap a;", 1, "b c / 1 2 / 0");
        does(check, three(), "swap z;come z 0;", 0, "a b c / 3 1 2 / 0");
        does(check, three(), "come z 0;prefer z 1;go z;swap z;", 3, "a b c / 3 1 2 / 0");
        does(check, Circles.read("park 1;car abcdefgh 0;"), "swap abcdefg;", 0, "abcdefgh / 0 / 0");
    }

    private static void newName(Check check) {
        does(check, new ParkingCircle(), "come a 1;", 1, "a / 1 / 0");
        does(check, three(), "come z 4;turn 0;", 2, "a b c z / 3 1 2 4 / 0");
        ParkingCircle x = three();
        does(check, x, "come a 4;turn 1;", 0, "a b c / 3 1 2 / 0");
        check.same("the NAME of a car is refused", x.refusal(), 2);
        does(check, three(), "go a;come a 3;", 2, "b c a / 1 2 3 / 0");
    }

    private static void wouldThrow(Check check) {
        String[] commands = {"prefer a 4;", "prefer a 999;", "turn 100;", "turn 999;", "back 6;", "back 999;", "come z 5;",
            "come z 999;", "come a 5;"};
        for (String command : commands) {
            ParkingCircle x = three();
            does(check, x, "turn 1;" + command + "turn 1;", 1, "a b c / 0 2 3 / 0");
            check.same("no refusal by " + command, Circles.accounts(x), "1 0 0 0 0");
            check.same("no reason by " + command, x.refusal(), 0);
        }
        does(check, three(), "prefer a 3;turn 99;back 5;come z 4;prefer a 4;", 5, "a b c z / 4 0 1 4 / 5");
        does(check, three(), "go a;prefer b 3;sort;", 1, "b c / 1 2 / 0");
        does(check, three(), "go a;prefer b 2;sort;", 3, "b c / 2 2 / 0");
    }

    private static void returnsFalse(Check check) {
        refused(check, three(), "swap c;", 3);
        refused(check, Circles.of(0, 0), "swap a;", 3);
        refused(check, three(), "come a 0;", 2);
        refused(check, three(), "come c 4;", 2);
        refused(check, three(), "prefer b 3;go c;", 4);
        refused(check, eleven(), "come z 12;", 1);
        refused(check, eleven(), "come a 0;", 1);
    }

    /** The last command is refused, what is behind it is not done. */
    private static void refused(Check check, ParkingCircle x, String commands, int reason) {
        int ahead = commands.split(";").length - 1;
        int cars = x.setting(0);
        check.same("done behind " + commands, Circles.script(x, commands + "back 5;"), ahead);
        check.same("BACK behind " + commands, x.setting(2), 0);
        check.same("cars behind " + commands, x.setting(0), cars);
        check.same("reason of " + commands, x.refusal(), reason);
        check.same("accounts behind " + commands, Circles.accounts(x), ahead + " 1 0 0 0");
    }

    private static void forty(Check check) {
        String most = "repeat 13(turn 1;turn 1;turn 1;);";
        does(check, three(), most, 39, "a b c / 2 0 1 / 0");
        does(check, three(), most + "turn 1;", 40, "a b c / 3 1 2 / 0");
        does(check, three(), most + "turn 1;turn 1;", 40, "a b c / 3 1 2 / 0");
        does(check, three(), "repeat 20(repeat 20(turn 1;););", 40, "a b c / 3 1 2 / 0");
        does(check, three(), "repeat 1(repeat 20(turn 1;turn 0;););repeat 20();", 40, "a b c / 3 1 2 / 0");
        does(check, three(), "turn 1;repeat 20(turn 0;turn 1;);", 40, "a b c / 3 1 2 / 0");
    }

    private static void behindFortieth(Check check) {
        String full = "repeat 20(turn 1;turn 1;);";
        for (String behind : new String[] {"back 5;", "swap c;", "go z;", "come z 0;", "turn 999;", "repeat 20(back 5;);"}) {
            ParkingCircle x = three();
            does(check, x, full + behind, 40, "a b c / 3 1 2 / 0");
            check.same("accounts behind " + behind, Circles.accounts(x), "40 0 0 0 0");
            check.same("refusal behind " + behind, x.refusal(), 0);
        }
        ParkingCircle y = three();
        does(check, y, full + "turn 1;", 40, "a b c / 3 1 2 / 0");
        does(check, y, "turn 1;", 1, "a b c / 0 2 3 / 0");
        check.same("the next script has 40 of its own", y.account(0), 41);
        check.same("the 40th is done", Circles.script(y, "repeat 13(turn 0;turn 0;turn 0;);swap a;"), 40);
        check.same("the 40th is done", Circles.names(y), "b a c");
    }

    private static void oneAndTwo(Check check) {
        fails(check, "park 0;", 1, 0);
        fails(check, "sort", 1, 4);
        fails(check, "sort;)", 1, 5);
        fails(check, "sort;;", 1, 5);
        fails(check, "repeat 1(sort;", 1, 14);
        fails(check, "repeat 1(sort;)", 1, 15);
        fails(check, "swap abcdefghi;", 1, 5);
        fails(check, "turn 0001;", 1, 5);
        fails(check, "repeat 0(", 2, 7);
        fails(check, "repeat 21(", 2, 7);
        fails(check, "sort;repeat 21", 2, 12);
    }

    private static void threeDeep(Check check) {
        does(check, three(), "repeat 1(repeat 1(turn 1;);repeat 1(turn 1;););repeat 1(repeat 1(););", 2, "a b c / 1 3 0 / 0");
        fails(check, "repeat 1(repeat 1(repeat 1();););", 3, 18);
        fails(check, "repeat 1(repeat 1();repeat 1(\n repeat 1();););", 3, 31);
        fails(check, "repeat 1(repeat 1(repeat", 3, 18);
        fails(check, "repeat 1(repeat 1(sort;repeat 99", 3, 23);
    }

    private static void thirtyOne(Check check) {
        String thirty = "turn 1;".repeat(30);
        does(check, three(), thirty, 30, "a b c / 1 3 0 / 0");
        does(check, three(), thirty + " \n", 30, "a b c / 1 3 0 / 0");
        fails(check, thirty + "turn 1;", 5, 210);
        fails(check, thirty + " swap", 5, 211);
        fails(check, thirty + "turn 9999", 5, 210);
        fails(check, thirty + "turns", 1, 210);
        fails(check, thirty + "7", 1, 210);
    }

    private static void repeatIsCommand(Check check) {
        does(check, three(), "turn 1;".repeat(29) + "repeat 20();", 29, "a b c / 0 2 3 / 0");
        does(check, three(), "repeat 1(" + "turn 1;".repeat(29) + ");", 29, "a b c / 0 2 3 / 0");
        does(check, three(), "repeat 1();".repeat(30), 0, "a b c / 3 1 2 / 0");
        does(check, three(), "repeat 10(turn 1;turn 1;turn 1;turn 1;);", 40, "a b c / 3 1 2 / 0");
        fails(check, "turn 1;".repeat(30) + "repeat 20();", 5, 210);
        fails(check, "repeat 1(" + "turn 1;".repeat(30) + ");", 5, 212);
        fails(check, "repeat 1();".repeat(31), 5, 330);
    }

    private static void emptiesBuffer(Check check) {
        ParkingCircle x = three();
        Circles.feed(x, "turn 1;");
        check.same("a script", x.runScript(), 1);
        check.noArgument("behind it", () -> x.truncate(1));
        check.same("it is not done again", x.runScript(), 0);
        Circles.feed(x, "turn 1;;");
        check.noArgument("runScript", () -> x.runScript());
        check.noArgument("behind an error", () -> x.truncate(1));
        Circles.feed(x, "turn 1;go z;");
        check.same("one that ends early", x.runScript(), 1);
        check.noArgument("behind it", () -> x.truncate(1));
        check.same("preferences", Circles.preferences(x), "1 3 0");
        Circles.feed(x, "repeat 1(repeat 1(turn 1;");
        check.noArgument("open brackets", () -> x.runScript());
        Circles.feed(x, "repeat 1(repeat 1(turn 1;););");
        check.same("they are not open any more", x.runScript(), 1);
    }

    private static void numberDone(Check check) {
        check.same("no text", Circles.script(three(), ""), 0);
        check.same("no command", Circles.script(three(), "repeat 20(repeat 20(););"), 0);
        check.same("none was done", Circles.script(three(), "go z;"), 0);
        check.same("one", Circles.script(three(), "repeat 1(repeat 1(sort;););"), 1);
        check.same("ended early", Circles.script(three(), "repeat 20(swap a;);"), 2);
        check.same("the most", Circles.script(three(), "repeat 20(repeat 20(turn 99;););"), 40);
    }

    private static void scriptWithError(Check check) {
        ParkingCircle x = three();
        x.save();
        x.turn(1);
        x.swap(2);
        int length = x.report();
        String[] scripts = {"sort", "turn 1;swap a;foo;", "turn 1;repeat 0();", "turn 1;repeat 1(repeat 1(repeat 1(););););",
            "turn 1;".repeat(31)};
        for (String script : scripts) {
            Circles.feed(x, script);
            check.noArgument(script, () -> x.runScript());
            check.noArgument("the buffer is empty behind " + script, () -> x.truncate(1));
            check.same("an error behind " + script, x.errorCode() > 0, true);
            check.same("cars behind " + script, Circles.state(x), "a b c / 0 2 3 / 0");
            check.same("accounts behind " + script, Circles.accounts(x), "1 1 0 0 0");
            check.same("refusal behind " + script, x.refusal(), 3);
            check.same("report behind " + script, Circles.lastReport(x, length), "a! . b! c!\n");
        }
        check.same("what can be undone", x.undo(), 0);
        check.same("cars", Circles.state(x), "a b c / 3 1 2 / 0");
        x.go(0);
        check.same("what is saved", x.restore(), 3);
    }
}
