/** The boundary cases of Terms 7 (accounts, undo) and of the promises 49 to 55. */
final class KeepingEdges {
    private KeepingEdges() {
    }

    static void all(Sentences sentences) {
        accounts(sentences);
        undoing(sentences);
        exceptions(sentences);
        promises(sentences);
    }

    private static void accounts(Sentences sentences) {
        sentences.term(7, "An account counts what was done since the object was made; what is undone stays counted",
                KeepingEdges::staysCounted);
        sentences.term(7, "acts (changes that were done, each command of a script, too)", KeepingEdges::acts);
        sentences.term(7, "refusals (changes that returned false, in scripts, too)", KeepingEdges::refusals);
        sentences.term(7, "cars that came, cars that went", KeepingEdges::cameAndWent);
        sentences.term(7, "undone changes (each call of undo() that undoes)", KeepingEdges::undoneChanges);
    }

    private static void undoing(Sentences sentences) {
        sentences.term(7, "Each call of a method below \"changes\" that was done without an exception and did not return false",
                KeepingEdges::doneAndNotRefused);
        sentences.term(7, "and each runScript() (as one, also if no command was done), can be undone",
                KeepingEdges::scriptAsOne);
        sentences.term(7, "(also if nothing is different by it)", KeepingEdges::nothingDifferent);
        sentences.term(7, "the latest first", KeepingEdges::latestFirst);
        sentences.term(7, "the latest 6 of them are kept", KeepingEdges::latestSix);
        sentences.term(7, "all is as before it then but the report, the buffer, the error, accounts, the latest refusal and what is"
                + " saved", KeepingEdges::allButSome);
        sentences.term(7, "readText() and restore() forget them.", KeepingEdges::forgotten);
    }

    private static void exceptions(Sentences sentences) {
        sentences.term(7, "If several exceptions apply to a call, the one that is listed first is thrown.",
                KeepingEdges::listedFirst);
        sentences.term(7, "A call that throws an exception or returns false changes nothing (but accounts and the latest refusal)",
                KeepingEdges::changesNothing);
        sentences.term(7, "The parameters car and other are numbers of existing cars", KeepingEdges::existingCars);
        sentences.term(7, "spot that of a spot, and node that of a node of the tree; otherwise IndexOutOfBoundsException is thrown",
                KeepingEdges::spotsAndNodes);
        sentences.term(7, "The parameter preference is a spot; otherwise IllegalArgumentException is thrown.",
                KeepingEdges::preferenceIsSpot);
        sentences.term(7, "`NONE = -1`: There is no such value.", KeepingEdges::noSuchValue);
    }

    private static void promises(Sentences sentences) {
        sentences.promise(49, "1 to 4 as told above; 0 if none was", KeepingEdges::reasons);
        sentences.promise(49, "the latest change that was refused (returned false, also in scripts)", KeepingEdges::latestRefusal);
        sentences.promise(50, "@throws IllegalArgumentException for any other what", KeepingEdges::otherAccount);
        sentences.promise(50, "0 acts, 1 refusals, 2 cars that came, 3 cars that went, 4 undone changes", KeepingEdges::eachAccount);
        sentences.promise(51, "NONE, and nothing changes, if there is none", KeepingEdges::nothingToUndo);
        sentences.promise(51, "@return the number of calls that can still be undone", KeepingEdges::stillUndone);
        sentences.promise(52, "in place of the one before", KeepingEdges::reportInPlace);
        sentences.promise(52, "with an exclamation mark (byte 33) behind it if it is LUCKY", KeepingEdges::marks);
        sentences.promise(52, "or a dot (byte 46) for the GAP", KeepingEdges::dot);
        sentences.promise(52, "one space between two spots; then a line feed", KeepingEdges::betweenAndBehind);
        sentences.promise(52, "@return the number of its bytes", KeepingEdges::leastAndMostBytes);
        sentences.promise(53, "Throws `IndexOutOfBoundsException` if there is no such byte, or there was no report",
                KeepingEdges::noSuchByte);
        sentences.promise(53, "Returns this byte of the latest report.", KeepingEdges::firstAndLastByte);
        sentences.promise(54, "Saves everything but the buffer, the error, accounts, the latest refusal, what can be undone and the"
                + " report", KeepingEdges::savesCars);
        sentences.promise(54, "in place of what was saved before", KeepingEdges::savesInPlace);
        sentences.promise(54, "@return the number of cars", KeepingEdges::saveNumber);
        sentences.promise(55, "Restores what was saved, which stays.", KeepingEdges::savedStays);
        sentences.promise(55, "Returns the number of cars then.", KeepingEdges::restoreNumber);
        sentences.promise(55, "Throws `IllegalStateException` if nothing was saved", KeepingEdges::nothingSaved);
    }

    private static ParkingCircle three() {
        return Circles.of(0, 3, 1, 2);
    }

    private static ParkingCircle eleven() {
        return Circles.alike(0, 11, 11);
    }

    private static void staysCounted(Check check) {
        ParkingCircle x = new ParkingCircle();
        check.same("at first", Circles.accounts(x), "0 0 0 0 0");
        Circles.come(x, "a", 0);
        x.go(0);
        x.come(0);
        check.same("done", Circles.accounts(x), "2 1 1 1 0");
        x.undo();
        x.undo();
        check.same("undone", Circles.accounts(x), "2 1 1 1 2");
        Circles.feed(x, "park 0;");
        x.readText();
        check.same("a text was read", Circles.accounts(x), "2 1 1 1 2");
        x.save();
        x.restore();
        check.same("restored", Circles.accounts(x), "2 1 1 1 2");
    }

    private static void acts(Check check) {
        ParkingCircle x = three();
        check.same("a text is none", x.account(0), 0);
        Circles.script(x, "");
        Circles.script(x, "repeat 20();");
        check.same("a script without commands is none", x.account(0), 0);
        Circles.script(x, "repeat 20(repeat 20(turn 0;););");
        check.same("40 commands", x.account(0), 40);
        x.turn(0);
        check.same("a change by which nothing is different", x.account(0), 41);
        x.swap(2);
        check.noArgument("turn", () -> x.turn(100));
        Circles.script(x, "turn 100;");
        Circles.script(x, "swap c;");
        Circles.script(x, "go z;");
        check.same("a refused one, one that throws", x.account(0), 41);
        x.prefer(0, 0);
        x.swap(0);
        x.setBack(1);
        Circles.come(x, "d", 0);
        x.go(3);
        x.sort();
        x.reverse();
        check.same("each other change", x.account(0), 48);
        x.undo();
        x.save();
        x.restore();
        x.report();
        check.same("what is no change", x.account(0), 48);
    }

    private static void refusals(Check check) {
        ParkingCircle x = three();
        x.swap(2);
        x.go(1);
        x.come(0);
        check.same("each reason", x.account(1), 3);
        Circles.script(x, "turn 0;swap c;swap c;");
        check.same("a script ends at the first one", x.account(1), 4);
        Circles.script(x, "go z;");
        Circles.script(x, "turn 100;");
        check.noArgument("come", () -> x.come(5));
        check.noIndex("swap", () -> x.swap(3));
        check.same("what would throw is none", x.account(1), 4);
        eleven().come(0);
        check.same("that of another object", x.account(1), 4);
    }

    private static void cameAndWent(Check check) {
        ParkingCircle x = three();
        check.same("those of a text did not come", Circles.accounts(x), "0 0 0 0 0");
        Circles.come(x, "d", 0);
        x.go(3);
        check.same("one came and went", x.account(2) + " " + x.account(3), "1 1");
        x.undo();
        x.undo();
        check.same("undoing is no coming and no going", x.account(2) + " " + x.account(3), "1 1");
        Circles.come(x, "a", 0);
        x.prefer(0, 3);
        x.go(1);
        check.same("refused ones do not count", x.account(2) + " " + x.account(3), "1 1");
        Circles.script(x, "come z 0;come y 0;go z;go y;go y;");
        check.same("in a script", x.account(2) + " " + x.account(3), "3 3");
    }

    private static void undoneChanges(Check check) {
        ParkingCircle x = three();
        x.undo();
        check.same("there is none", x.account(4), 0);
        Circles.script(x, "turn 1;turn 1;");
        x.undo();
        check.same("a script is one", x.account(4), 1);
        x.undo();
        check.same("there is none any more", x.account(4), 1);
        for (int i = 0; i < 8; i++) {
            x.turn(1);
        }
        check.same("six of eight", Circles.undoAll(x), 6);
        check.same("each of them", x.account(4), 7);
    }

    private static void doneAndNotRefused(Check check) {
        ParkingCircle x = three();
        x.swap(2);
        x.go(1);
        x.come(0);
        check.noIndex("prefer", () -> x.prefer(3, 0));
        check.noArgument("turn", () -> x.turn(100));
        check.noArgument("setBack", () -> x.setBack(6));
        check.noArgument("runScript", () -> {
            Circles.feed(x, "sort");
            return x.runScript();
        });
        check.same("none of these", x.undo(), -1);
        KeepingTests.undoes(check, y -> y.prefer(2, 3));
        KeepingTests.undoes(check, y -> y.swap(0));
        KeepingTests.undoes(check, y -> y.turn(99));
        KeepingTests.undoes(check, y -> y.setBack(5));
        KeepingTests.undoes(check, y -> Circles.come(y, "d", 4));
        KeepingTests.undoes(check, y -> y.go(0));
        KeepingTests.undoes(check, y -> y.sort());
        KeepingTests.undoes(check, y -> y.reverse());
    }

    private static void scriptAsOne(Check check) {
        ParkingCircle x = three();
        Circles.script(x, "");
        Circles.script(x, "go z;");
        Circles.script(x, "swap c;");
        check.same("no command was done", Circles.undoAll(x), 3);
        Circles.script(x, "turn 1;");
        Circles.script(x, "repeat 20(repeat 2(turn 1;back 5;););");
        Circles.script(x, "turn 1;go z;");
        check.same("state", Circles.state(x), "a b c / 1 3 0 / 5");
        check.same("ended early", x.undo(), 2);
        check.same("state", Circles.state(x), "a b c / 0 2 3 / 5");
        check.same("40 commands", x.undo(), 1);
        check.same("state", Circles.state(x), "a b c / 0 2 3 / 0");
        check.same("one command", x.undo(), 0);
        check.same("state", Circles.state(x), "a b c / 3 1 2 / 0");
    }

    private static void nothingDifferent(Check check) {
        ParkingCircle x = Circles.rising(3);
        x.prefer(0, 0);
        x.turn(0);
        x.turn(4);
        x.setBack(0);
        x.sort();
        Circles.script(x, "");
        check.same("calls that can be undone", Circles.undoAll(x), 6);
        check.same("undone changes", x.account(4), 6);
        ParkingCircle y = new ParkingCircle();
        y.turn(99);
        y.sort();
        y.reverse();
        check.same("without cars", Circles.undoAll(y), 3);
    }

    private static void latestFirst(Check check) {
        ParkingCircle x = three();
        x.prefer(0, 0);
        x.setBack(3);
        check.same("the second one", x.undo(), 1);
        check.same("state", Circles.state(x), "a b c / 0 1 2 / 0");
        x.turn(1);
        check.same("the one that was done since", x.undo(), 1);
        check.same("state", Circles.state(x), "a b c / 0 1 2 / 0");
        check.same("the first one", x.undo(), 0);
        check.same("state", Circles.state(x), "a b c / 3 1 2 / 0");
    }

    private static void latestSix(Check check) {
        for (int changes = 5; changes <= 14; changes++) {
            ParkingCircle x = Circles.alike(0, 11, 0);
            for (int i = 0; i < changes; i++) {
                x.turn(1);
            }
            for (int left = changes - 1; left >= 0 && left >= changes - 6; left--) {
                x.undo();
                check.same("undo of " + changes, x.car(0, 0), left % 12);
            }
            check.same("none is left of " + changes, x.undo(), -1);
        }
        ParkingCircle y = three();
        for (int i = 0; i < 6; i++) {
            y.turn(1);
        }
        y.swap(2);
        check.noArgument("turn", () -> y.turn(-1));
        check.same("one that is refused or throws pushes out none", Circles.undoAll(y), 6);
        check.same("state", Circles.state(y), "a b c / 3 1 2 / 0");
    }

    private static void allButSome(Check check) {
        ParkingCircle x = three();
        Circles.come(x, "d", 0);
        x.setBack(5);
        x.save();
        int length = x.report();
        x.swap(3);
        Circles.feed(x, "park 12;");
        check.noArgument("readText", () -> x.readText());
        Circles.feed(x, "xyz");
        check.same("undo", x.undo(), 1);
        check.same("undo", x.undo(), 0);
        check.same("cars and BACK are as before", Circles.state(x), "a b c / 3 1 2 / 0");
        check.same("the report is not", Circles.lastReport(x, length), "d! b! c! a! .\n");
        check.same("the buffer is not", x.truncate(3), 3);
        check.same("the error is not", Circles.error(x), "2 at 5");
        check.same("accounts are not", Circles.accounts(x), "2 1 1 0 2");
        check.same("the latest refusal is not", x.refusal(), 3);
        check.same("what is saved is not", x.restore(), 4);
    }

    private static void forgotten(Check check) {
        ParkingCircle x = three();
        x.turn(1);
        Circles.feed(x, "park 1;car a 0;");
        x.readText();
        check.same("a text", x.undo(), -1);
        x.save();
        for (int i = 0; i < 7; i++) {
            x.turn(1);
        }
        x.restore();
        check.same("what was saved", x.undo(), -1);
        x.turn(1);
        check.noArgument("a text with an error", () -> x.readText());
        check.same("forgets nothing", x.undo(), 0);
        ParkingCircle y = three();
        y.turn(1);
        check.noState("nothing was saved", () -> y.restore());
        check.same("that forgets nothing", y.undo(), 0);
    }

    private static void listedFirst(Check check) {
        ParkingCircle x = three();
        check.noIndex("car", () -> x.car(3, 6));
        check.noIndex("car", () -> x.car(-1, -1));
        check.noIndex("whoAfter", () -> x.whoAfter(4, 4));
        check.noIndex("whoAfter", () -> x.whoAfter(-1, -1));
        check.noIndex("spotIf", () -> x.spotIf(3, 4));
        check.noIndex("spotIf", () -> x.spotIf(-1, -1));
        check.noIndex("settingIf", () -> x.settingIf(3, 4, 10));
        check.noIndex("settingIf", () -> x.settingIf(-1, -1, -1));
        check.noIndex("prefer", () -> x.prefer(3, 4));
        check.noIndex("prefer", () -> x.prefer(-1, -1));
    }

    private static void changesNothing(Check check) {
        ParkingCircle x = three();
        x.save();
        x.setBack(2);
        int length = x.report();
        Circles.feed(x, "a");
        throwOnce(check, x);
        check.same("accounts", Circles.accounts(x), "1 0 0 0 0");
        check.same("refusal", x.refusal(), 0);
        check.same("swap", x.swap(2), false);
        check.same("go", x.go(1), false);
        check.same("come", x.come(4), false);
        check.same("state", Circles.state(x), "a b c / 3 1 2 / 2");
        check.same("error", Circles.error(x), "0 at -1");
        check.same("report", Circles.lastReport(x, length), ". b! c! a!\n");
        check.noIndex("report", () -> x.reportByte(length));
        check.same("buffer", x.truncate(1), 1);
        check.same("accounts", Circles.accounts(x), "1 3 0 0 0");
        check.same("what can be undone", x.undo(), 0);
        check.same("what is saved", x.restore(), 3);
        check.same("state", Circles.state(x), "a b c / 3 1 2 / 0");
    }

    /** Three cars; the buffer is the NAME of one of them. */
    private static void throwOnce(Check check, ParkingCircle x) {
        check.noArgument("truncate", () -> x.truncate(2));
        check.noArgument("setting", () -> x.setting(10));
        check.noIndex("letter", () -> x.letter(3, 0));
        check.noArgument("car", () -> x.car(0, 6));
        check.noIndex("who", () -> x.who(4));
        check.noIndex("wanted", () -> x.wanted(4));
        check.noIndex("spotByLine", () -> x.spotByLine(3));
        check.noArgument("whoAfter", () -> x.whoAfter(4, 0));
        check.noArgument("longestAfter", () -> x.longestAfter(4));
        check.noArgument("inWay", () -> x.inWay(4));
        check.noIndex("degree", () -> x.degree(4));
        check.noIndex("far", () -> x.far(0, 4));
        check.noArgument("spotIf", () -> x.spotIf(0, 4));
        check.noArgument("settingIf", () -> x.settingIf(0, 0, 10));
        check.noIndex("bestFor", () -> x.bestFor(3));
        check.noIndex("latest", () -> x.latest(3));
        check.noArgument("wayBy", () -> x.wayBy(6));
        check.noArgument("prefer", () -> x.prefer(0, 4));
        check.noIndex("swap", () -> x.swap(3));
        check.noArgument("turn", () -> x.turn(100));
        check.noArgument("setBack", () -> x.setBack(6));
        check.noArgument("come", () -> x.come(5));
        check.noIndex("go", () -> x.go(3));
        check.noArgument("account", () -> x.account(5));
        check.noIndex("reportByte", () -> x.reportByte(-1));
    }

    /** The parameter other is one of far() alone, where it is a node, as the tests that are shared ask it, too. */
    private static void existingCars(Check check) {
        for (int cars = 0; cars <= 11; cars += 11) {
            int now = cars;
            check.onlyIndexes("letter", 0, cars - 1, n -> Circles.alike(0, now, 0).letter(n, 0));
            check.onlyIndexes("car", 0, cars - 1, n -> Circles.alike(0, now, 0).car(n, 0));
            check.onlyIndexes("spotByLine", 0, cars - 1, n -> Circles.alike(0, now, 0).spotByLine(n));
            check.onlyIndexes("spotIf", 0, cars - 1, n -> Circles.alike(0, now, 0).spotIf(n, 0));
            check.onlyIndexes("settingIf", 0, cars - 1, n -> Circles.alike(0, now, 0).settingIf(n, 0, 0));
            check.onlyIndexes("bestFor", 0, cars - 1, n -> Circles.alike(0, now, 0).bestFor(n));
            check.onlyIndexes("latest", 0, cars - 1, n -> Circles.alike(0, now, 0).latest(n));
            check.onlyIndexes("prefer", 0, cars - 1, n -> Circles.alike(0, now, 0).prefer(n, 0));
            check.onlyIndexes("swap", 0, cars - 1, n -> Circles.alike(0, now, 0).swap(n));
            check.onlyIndexes("go", 0, cars - 1, n -> Circles.alike(0, now, 0).go(n));
        }
        ParkingCircle x = Circles.alike(0, 2, 0);
        x.go(1);
        check.noIndex("a car that went", () -> x.car(1, 0));
        x.undo();
        check.same("it is there again", x.car(1, 0), 0);
    }

    private static void spotsAndNodes(Check check) {
        for (int cars = 0; cars <= 11; cars += 11) {
            int now = cars;
            check.onlyIndexes("who", 0, cars, n -> Circles.alike(0, now, 0).who(n));
            check.onlyIndexes("wanted", 0, cars, n -> Circles.alike(0, now, 0).wanted(n));
            check.onlyIndexes("whoAfter", 0, cars, n -> Circles.alike(0, now, 0).whoAfter(0, n));
            check.onlyIndexes("degree", 0, cars, n -> Circles.alike(0, now, 0).degree(n));
            check.onlyIndexes("far", 0, cars, n -> Circles.alike(0, now, 0).far(n, 0));
        }
        ParkingCircle x = Circles.alike(0, 2, 0);
        x.go(1);
        check.noIndex("a spot that is no more", () -> x.who(2));
        check.noIndex("a node that is no more", () -> x.degree(2));
        x.undo();
        check.same("it is there again", x.who(2), -1);
    }

    private static void preferenceIsSpot(Check check) {
        for (int cars = 1; cars <= 11; cars += 10) {
            int now = cars;
            check.onlyArguments("spotIf", 0, cars, n -> Circles.alike(0, now, 0).spotIf(0, n));
            check.onlyArguments("settingIf", 0, cars, n -> Circles.alike(0, now, 0).settingIf(0, n, 0));
            check.onlyArguments("prefer", 0, cars, n -> Circles.alike(0, now, 0).prefer(0, n));
        }
        ParkingCircle x = Circles.alike(0, 2, 0);
        x.go(1);
        check.noArgument("a spot that is no more", () -> x.prefer(0, 2));
        Circles.come(x, "z", 0);
        check.same("it is there again", x.prefer(0, 2), 0);
    }

    private static void noSuchValue(Check check) {
        check.same("NONE", ParkingCircle.NONE, -1);
        ParkingCircle x = new ParkingCircle();
        check.same("errorPosition", x.errorPosition(), ParkingCircle.NONE);
        check.same("who", x.who(0), ParkingCircle.NONE);
        check.same("ranked", x.ranked(0), ParkingCircle.NONE);
        check.same("breakAt", x.breakAt(0), ParkingCircle.NONE);
        check.same("whoAfter", x.whoAfter(0, 0), ParkingCircle.NONE);
        check.same("inWay", x.inWay(0), ParkingCircle.NONE);
        check.same("code", x.code(0), ParkingCircle.NONE);
        check.same("edge", x.edge(0), ParkingCircle.NONE);
        check.same("undo", x.undo(), ParkingCircle.NONE);
    }

    private static void reasons(Check check) {
        check.same("none was", new ParkingCircle().refusal(), 0);
        ParkingCircle full = eleven();
        full.come(12);
        check.same("eleven cars", full.refusal(), 1);
        ParkingCircle nameless = three();
        nameless.come(0);
        check.same("no NAME", nameless.refusal(), 2);
        ParkingCircle last = three();
        last.swap(2);
        check.same("none behind", last.refusal(), 3);
        ParkingCircle wanted = three();
        wanted.go(1);
        check.same("the last spot is preferred", wanted.refusal(), 4);
    }

    private static void latestRefusal(Check check) {
        ParkingCircle x = three();
        x.go(1);
        x.swap(2);
        check.same("the second one", x.refusal(), 3);
        x.turn(1);
        check.noIndex("swap", () -> x.swap(3));
        x.undo();
        Circles.script(x, "turn 100;");
        Circles.script(x, "go z;");
        check.same("no other call is one", x.refusal(), 3);
        Circles.script(x, "turn 0;come a 0;go b;");
        check.same("in a script", x.refusal(), 2);
        Circles.feed(x, "park 0;");
        x.readText();
        x.save();
        x.restore();
        check.same("it stays", x.refusal(), 2);
    }

    private static void otherAccount(Check check) {
        check.onlyArguments("account() of a new object", 0, 4, n -> new ParkingCircle().account(n));
        check.onlyArguments("account() of eleven cars", 0, 4, n -> eleven().account(n));
    }

    private static void eachAccount(Check check) {
        ParkingCircle x = new ParkingCircle();
        Circles.come(x, "a", 0);
        Circles.come(x, "b", 0);
        Circles.come(x, "c", 0);
        x.go(2);
        x.turn(1);
        x.turn(1);
        x.swap(1);
        x.come(0);
        for (int i = 0; i < 4; i++) {
            x.undo();
        }
        check.same("each one has its place", Circles.accounts(x), "6 2 3 1 4");
    }

    private static void nothingToUndo(Check check) {
        ParkingCircle x = new ParkingCircle();
        check.same("a new object", x.undo(), -1);
        check.same("accounts", Circles.accounts(x), "0 0 0 0 0");
        ParkingCircle y = three();
        y.turn(1);
        y.swap(2);
        check.same("the only one", y.undo(), 0);
        for (int i = 0; i < 8; i++) {
            check.same("none any more", y.undo(), -1);
        }
        check.same("accounts", Circles.accounts(y), "1 1 0 0 1");
        check.same("state", Circles.state(y), "a b c / 3 1 2 / 0");
        check.same("refusal", y.refusal(), 3);
        y.turn(1);
        check.same("one again", y.undo(), 0);
    }

    private static void stillUndone(Check check) {
        for (int changes = 1; changes <= 9; changes++) {
            ParkingCircle x = three();
            for (int i = 0; i < changes; i++) {
                x.turn(1);
            }
            for (int left = Math.min(6, changes) - 1; left >= 0; left--) {
                check.same("undo of " + changes, x.undo(), left);
            }
            check.same("undo of " + changes, x.undo(), -1);
        }
    }

    private static void reportInPlace(Check check) {
        ParkingCircle x = Circles.read("park 2;car abcdefgh 0;car b 1;");
        check.same("a long one", Circles.reported(x), "abcdefgh! b! .\n");
        x.turn(1);
        check.same("it stays until the next one", Circles.lastReport(x, 15), "abcdefgh! b! .\n");
        Circles.feed(x, "park 0;");
        x.readText();
        check.same("bytes of a short one", x.report(), 2);
        check.same("a short one", Circles.lastReport(x, 2), ".\n");
        check.noIndex("nothing of the long one", () -> x.reportByte(2));
    }

    private static void marks(Check check) {
        check.same("one car", Circles.reported(Circles.of(0, 1)), ". a!\n");
        check.same("who went on over the last spot", Circles.reported(Circles.of(0, 2, 2)), "b . a!\n");
        check.same("who went back over the spot 0", Circles.reported(Circles.of(1, 0, 0)), "a! . b\n");
        check.same("all of eleven", Circles.reported(Circles.rising(11)), "a! b! c! d! e! f! g! h! i! j! k! .\n");
        check.same("one of eleven", Circles.reported(eleven()), "b c d e f g h i j k . a!\n");
    }

    private static void dot(Check check) {
        check.same("the only spot", Circles.reported(new ParkingCircle()), ".\n");
        check.same("the first spot", Circles.reported(Circles.of(0, 1, 2)), ". a! b!\n");
        check.same("the last spot", Circles.reported(Circles.of(0, 0, 1)), "a! b! .\n");
        check.same("one between", Circles.reported(Circles.of(0, 0, 2)), "a! . b!\n");
    }

    private static void betweenAndBehind(Check check) {
        for (int cars = 0; cars <= 11; cars++) {
            String report = Circles.reported(Circles.alike(0, cars, 0));
            check.same("spaces of " + cars, report.length() - report.replace(" ", "").length(), cars);
            check.same("two of them of " + cars, report.contains("  "), false);
            check.same("the end of " + cars, report.endsWith(".\n"), true);
            check.same("line feeds of " + cars, report.indexOf('\n'), report.length() - 1);
            check.same("the beginning of " + cars, report.startsWith(" "), false);
        }
    }

    private static ParkingCircle longNames() {
        StringBuilder text = new StringBuilder("park11;");
        for (int car = 0; car < 11; car++) {
            text.append("car abcdefg").append((char) ('a' + car)).append(car).append(';');
        }
        return Circles.read(text.toString());
    }

    private static void leastAndMostBytes(Check check) {
        check.same("without cars", new ParkingCircle().report(), 2);
        check.same("eleven cars with 8 letters each, all LUCKY", longNames().report(), 112);
        check.same("eleven cars with 1 letter each, one LUCKY", eleven().report(), 25);
    }

    private static void noSuchByte(Check check) {
        ParkingCircle x = new ParkingCircle();
        check.onlyIndexes("no report", 0, -1, x::reportByte);
        x.report();
        check.onlyIndexes("two bytes", 0, 1, x::reportByte);
        ParkingCircle y = longNames();
        check.onlyIndexes("no report", 0, -1, y::reportByte);
        y.report();
        check.onlyIndexes("112 bytes", 0, 111, y::reportByte);
    }

    private static void firstAndLastByte(Check check) {
        ParkingCircle x = new ParkingCircle();
        x.report();
        check.same("the first one of two", x.reportByte(0), 46);
        check.same("the last one of two", x.reportByte(1), 10);
        ParkingCircle y = longNames();
        y.report();
        check.same("the first one of 112", y.reportByte(0), 97);
        check.same("the first mark", y.reportByte(8), 33);
        check.same("the first space", y.reportByte(9), 32);
        check.same("the last one of 112", y.reportByte(111), 10);
    }

    private static void savesCars(Check check) {
        ParkingCircle x = Circles.of(5, 3, 1, 2);
        x.save();
        Circles.come(x, "d", 4);
        x.setBack(0);
        x.swap(3);
        int length = x.report();
        Circles.feed(x, "park 12;");
        check.noArgument("readText", () -> x.readText());
        Circles.feed(x, "xyz");
        x.restore();
        check.same("cars and BACK are saved", Circles.state(x), "a b c / 3 1 2 / 5");
        check.same("the buffer is not", x.truncate(3), 3);
        check.same("the error is not", Circles.error(x), "2 at 5");
        check.same("accounts are not", Circles.accounts(x), "2 1 1 0 0");
        check.same("the latest refusal is not", x.refusal(), 3);
        check.same("what can be undone is not", x.undo(), -1);
        check.same("the report is not", Circles.lastReport(x, length), ". b! c! a! d!\n");
    }

    private static void savesInPlace(Check check) {
        ParkingCircle x = longNames();
        x.save();
        Circles.feed(x, "park 1;back 2;car z 1;");
        x.readText();
        x.save();
        Circles.feed(x, "park 0;");
        x.readText();
        x.restore();
        check.same("the latter one", Circles.state(x), "z / 1 / 2");
    }

    private static void saveNumber(Check check) {
        check.same("none", new ParkingCircle().save(), 0);
        check.same("the most", eleven().save(), 11);
        ParkingCircle x = three();
        x.turn(1);
        check.same("three", x.save(), 3);
        check.same("that is no change", Circles.accounts(x), "1 0 0 0 0");
        check.same("that forgets nothing", x.undo(), 0);
    }

    private static void savedStays(Check check) {
        ParkingCircle x = three();
        x.save();
        for (int times = 0; times < 3; times++) {
            x.go(0);
            x.setBack(5);
            x.turn(1);
            check.same("restore", x.restore(), 3);
            check.same("state", Circles.state(x), "a b c / 3 1 2 / 0");
        }
        Circles.feed(x, "park 0;");
        x.readText();
        check.same("behind a text", x.restore(), 3);
        check.same("state", Circles.state(x), "a b c / 3 1 2 / 0");
    }

    private static void restoreNumber(Check check) {
        ParkingCircle x = new ParkingCircle();
        x.save();
        Circles.come(x, "a", 0);
        check.same("none", x.restore(), 0);
        ParkingCircle y = eleven();
        y.save();
        Circles.feed(y, "park 0;");
        y.readText();
        check.same("the most", y.restore(), 11);
        check.same("PREFERENCES", Circles.preferences(y), "11 11 11 11 11 11 11 11 11 11 11");
    }

    private static void nothingSaved(Check check) {
        check.noState("a new object", () -> new ParkingCircle().restore());
        ParkingCircle x = three();
        x.turn(1);
        check.noState("behind a text", () -> x.restore());
        check.same("state", Circles.state(x), "a b c / 0 2 3 / 0");
        check.same("what can be undone", x.undo(), 0);
        eleven().save();
        check.noState("another object was saved", () -> x.restore());
        x.save();
        check.same("now something was", x.restore(), 3);
    }
}
