/** The boundary cases of Terms 5 (text) and of the promises 1 to 4, 6 and 7. */
final class TextEdges {
    private static final int SPACES = 0x20202020;
    private static final String ELEVEN = "car a 0;car b 1;car c 2;car d 3;car e 4;car f 5;car g 6;car h 7;car i 8;car j 9;car k 11;";

    private TextEdges() {
    }

    static void all(Sentences sentences) {
        tokens(sentences);
        systems(sentences);
        errors(sentences);
        promises(sentences);
    }

    private static void tokens(Sentences sentences) {
        sentences.term(5, "It is read from a buffer of at most 400 bytes.", TextEdges::mostBytes);
        sentences.term(5, "Spaces (byte 32) and line feeds (byte 10) may stand before, between and behind tokens.",
                TextEdges::spaces);
        sentences.term(5, "A word is a maximal run of letters a to z", TextEdges::letters);
        sentences.term(5, "with at most 8 letters", TextEdges::mostLetters);
        sentences.term(5, "a NAME is any word", TextEdges::names);
        sentences.term(5, "A number N is a maximal run of digits", TextEdges::digits);
        sentences.term(5, "with at most 3 digits", TextEdges::mostDigits);
        sentences.term(5, "The other tokens are the single characters ; ( and ).", TextEdges::otherTokens);
        sentences.term(5, "A word and a number side by side need nothing between them.", TextEdges::sideBySide);
    }

    private static void systems(Sentences sentences) {
        sentences.term(5, "\"park\" tells how many cars there are (0 to 11)", TextEdges::park);
        sentences.term(5, "[ \"back\" N \";\" ]", TextEdges::backOnceOrNever);
        sentences.term(5, "\"back\" BACK", TextEdges::back);
        sentences.term(5, "\"car\" the next car: its NAME and its PREFERENCE", TextEdges::preferences);
        sentences.term(5, "There are just as many cars as was told.", TextEdges::asManyAsTold);
    }

    private static void errors(Sentences sentences) {
        sentences.term(5, "Reading stops at the first token with an error, from left to right.", TextEdges::firstError);
        sentences.term(5, "The position of an error is the index of the first byte of the token", TextEdges::firstByte);
        sentences.term(5, "or the length of the text if it ends too early", TextEdges::lengthOfText);
        sentences.term(5, "If several codes apply to the token, the lowest one is reported", TextEdges::lowestCode);
        sentences.term(5, "1: a token or byte that the grammar does not allow", TextEdges::notAllowed);
        sentences.term(5, "or the text ends too early", TextEdges::endsTooEarly);
        sentences.term(5, "(also if there are fewer cars than was told: at the length of the text)", TextEdges::fewerCars);
        sentences.term(5, "a word or number that is too long", TextEdges::tooLong);
        sentences.term(5, "2: a number that is out of its range.", TextEdges::outOfRange);
        sentences.term(5, "3: a NAME that another car has.", TextEdges::nameTwice);
        sentences.term(5, "5: the first word of a car more than was told.", TextEdges::carTooMany);
    }

    private static void promises(Sentences sentences) {
        sentences.promise(1, "Creates a circle as by the text \"park 0;\", with an empty buffer, all accounts 0.",
                TextEdges::newObject);
        sentences.promise(2, "Appends 20 bytes to the buffer: the four bytes of each parameter, the most significant byte first.",
                TextEdges::eachByte);
        sentences.promise(2, "Returns the new number of bytes in the buffer.", TextEdges::newNumber);
        sentences.promise(2, "Throws `IllegalStateException` if it would exceed 400", TextEdges::fullBuffer);
        sentences.promise(3, "Truncates the buffer.", TextEdges::truncates);
        sentences.promise(3, "Returns this number.", TextEdges::sameNumber);
        sentences.promise(3, "Throws `IllegalArgumentException` if it is negative or greater than the present one",
                TextEdges::noLength);
        sentences.promise(4, "replaces everything but accounts, the latest refusal, what is saved and the report",
                TextEdges::replaces);
        sentences.promise(4, "empties the buffer, also on an error", TextEdges::emptiesBuffer);
        sentences.promise(4, "Returns the number of cars.", TextEdges::numberOfCars);
        sentences.promise(4, "Throws `IllegalArgumentException` if the text has an error; only the buffer and the error change then",
                TextEdges::textWithError);
        sentences.promise(6, "0 if it had no error, or if there was none", TextEdges::noErrorCode);
        sentences.promise(6, "Returns the code of the error of the latest readText() or runScript()", TextEdges::latestCode);
        sentences.promise(7, "NONE if there was none", TextEdges::noErrorPosition);
        sentences.promise(7, "Returns the position of that error", TextEdges::errorPosition);
    }

    private static void reads(Check check, String text, String state) {
        TextTests.reads(check, text, state);
    }

    private static void fails(Check check, String text, int code, int position) {
        TextTests.fails(check, text, code, position);
    }

    private static void mostBytes(Check check) {
        reads(check, "park 0;" + " ".repeat(393), " /  / 0");
        reads(check, "park 1;" + "\n".repeat(385) + "car a 1;", "a / 1 / 0");
        fails(check, "park 1;" + " ".repeat(386) + "car a 1", 1, 400);
        ParkingCircle x = new ParkingCircle();
        Circles.feed(x, "park 0;" + " ".repeat(393));
        check.noState("401 bytes", () -> x.feed(SPACES, SPACES, SPACES, SPACES, SPACES));
        check.same("the text stays", x.readText(), 0);
    }

    private static void spaces(Check check) {
        reads(check, "park2;car a0;car b1;", "a b / 0 1 / 0");
        reads(check, " \npark\n 2 \n;\n car  a\n\n0 ; car\nb 1\n; \n", "a b / 0 1 / 0");
        reads(check, "\npark 0;\n", " /  / 0");
        for (char sign : new char[] {0, 9, 11, 12, 13, 31, 33, 127, 128, 160, 255}) {
            fails(check, sign + "park 0;", 1, 0);
            fails(check, "park" + sign + "0;", 1, 4);
            fails(check, "park 0;" + sign, 1, 7);
        }
    }

    private static void letters(Check check) {
        reads(check, "park 2;car a 0;car z 1;", "a z / 0 1 / 0");
        for (char sign : new char[] {'`', '{', 'A', 'Z', '@', '[', '_', 0xE4}) {
            fails(check, "park 1;car " + sign + " 0;", 1, 11);
            fails(check, "park 1;car a" + sign + " 0;", 1, 12);
        }
        fails(check, "park 1;car a b 0;", 1, 13);
        fails(check, "parks 0;", 1, 0);
        fails(check, "par k0;", 1, 0);
    }

    private static void mostLetters(Check check) {
        reads(check, "park 1;car a 0;", "a / 0 / 0");
        reads(check, "park 1;car abcdefgh 0;", "abcdefgh / 0 / 0");
        fails(check, "park 1;car abcdefghi 0;", 1, 11);
        fails(check, "park 2;car abcdefgh 0;car abcdefgha 0;", 1, 26);
        fails(check, "park 1;car " + "a".repeat(389), 1, 11);
    }

    private static void names(Check check) {
        reads(check, "park 3;car car 0;car park 1;car back 2;", "car park back / 0 1 2 / 0");
        reads(check, "park 2;car repeat 0;car come 1;", "repeat come / 0 1 / 0");
        fails(check, "park 1;car 1 0;", 1, 11);
        fails(check, "park 1;car ; 0;", 1, 11);
    }

    private static void digits(Check check) {
        reads(check, "park 9;" + ELEVEN.substring(0, 64) + "car i 9;", "a b c d e f g h i / 0 1 2 3 4 5 6 7 9 / 0");
        fails(check, "park /;", 1, 5);
        fails(check, "park :;", 1, 5);
        fails(check, "park 0/;", 1, 6);
        fails(check, "park 0:;", 1, 6);
        fails(check, "park 1 1;", 1, 7);
        fails(check, "park -0;", 1, 5);
        fails(check, "park +0;", 1, 5);
    }

    private static void mostDigits(Check check) {
        reads(check, "park 1;car a 1;", "a / 1 / 0");
        reads(check, "park 001;back 005;car a 001;", "a / 1 / 5");
        fails(check, "park 0001;", 1, 5);
        fails(check, "park 0000;", 1, 5);
        fails(check, "park 0;back 0000;", 1, 12);
        fails(check, "park 1;car a 0001;", 1, 13);
        fails(check, "park " + "0".repeat(395), 1, 5);
    }

    private static void otherTokens(Check check) {
        fails(check, "(park 0;", 1, 0);
        fails(check, "park 0;)", 1, 7);
        fails(check, "park 0;;", 1, 7);
        fails(check, "park 0:", 1, 6);
        fails(check, "park 0,", 1, 6);
        check.same("as single ones", Circles.script(Circles.of(0, 0), "repeat 1(repeat 1(turn 0;););"), 1);
        fails(check, "park 0;((", 1, 7);
    }

    private static void sideBySide(Check check) {
        reads(check, "park1;back1;car a1;", "a / 1 / 1");
        reads(check, "park 1;car abcdefgh001;", "abcdefgh / 1 / 0");
        fails(check, "park 1a;", 1, 6);
        fails(check, "park 1;car1a;", 1, 10);
        fails(check, "park 1;cara 1;", 1, 7);
        check.same("in a script", Circles.script(Circles.of(0, 0), "prefer a1;repeat2(turn1;);"), 3);
    }

    private static void park(Check check) {
        reads(check, "park 0;", " /  / 0");
        reads(check, "park 1;car a 1;", "a / 1 / 0");
        reads(check, "park 11;" + ELEVEN, "a b c d e f g h i j k / 0 1 2 3 4 5 6 7 8 9 11 / 0");
        fails(check, "park 12;" + ELEVEN + "car l 0;", 2, 5);
        fails(check, "park 999;", 2, 5);
    }

    private static void backOnceOrNever(Check check) {
        reads(check, "park 1;car a 0;", "a / 0 / 0");
        reads(check, "park 1;back 2;car a 0;", "a / 0 / 2");
        fails(check, "park 1;back 2;back 2;car a 0;", 1, 14);
        fails(check, "park 0;back 2;back 2;", 1, 14);
        fails(check, "park 1;car a 0;back 2;", 1, 15);
        fails(check, "back 2;park 0;", 1, 0);
    }

    private static void back(Check check) {
        reads(check, "park 0;back 0;", " /  / 0");
        reads(check, "park 0;back 5;", " /  / 5");
        fails(check, "park 0;back 6;", 2, 12);
        fails(check, "park 0;back 999;", 2, 12);
    }

    private static void preferences(Check check) {
        reads(check, "park 2;car a 0;car b 2;", "a b / 0 2 / 0");
        fails(check, "park 2;car a 0;car b 3;", 2, 21);
        fails(check, "park 2;car a 3;car b 0;", 2, 13);
        reads(check, "park 11;" + ELEVEN, "a b c d e f g h i j k / 0 1 2 3 4 5 6 7 8 9 11 / 0");
        fails(check, "park 11;" + ELEVEN.replace("11", "12"), 2, 94);
        fails(check, "park 1;car a 999;", 2, 13);
    }

    private static void asManyAsTold(Check check) {
        reads(check, "park 2;car a 0;car b 0;", "a b / 0 0 / 0");
        fails(check, "park 2;car a 0;", 1, 15);
        fails(check, "park 2;car a 0;car b 0;car c 0;", 5, 23);
        fails(check, "park 0;car a 0;", 5, 7);
        fails(check, "park 11;" + ELEVEN + "car l 0;", 5, 97);
        fails(check, "park 11;" + ELEVEN.substring(0, 80), 1, 88);
    }

    private static void firstError(Check check) {
        fails(check, "park 12;back 6;", 2, 5);
        fails(check, "park 2;back 6;car a 9;", 2, 12);
        fails(check, "park 2;car a 3;car a 0", 2, 13);
        fails(check, "park 2;car a 0;car a 3", 3, 19);
        fails(check, "park 2;car a 0;car b 3)", 2, 21);
        fails(check, "park 0;car a!", 5, 7);
        fails(check, "! park 12", 1, 0);
    }

    private static void firstByte(Check check) {
        fails(check, "0;", 1, 0);
        fails(check, "\n \n parking", 1, 4);
        fails(check, "park   123;", 2, 7);
        fails(check, "park 2;car a 0;car abcdefghijkl 0;", 1, 19);
        fails(check, "park 0;\n )", 1, 9);
        fails(check, "park 0;" + " ".repeat(392) + "!", 1, 399);
    }

    private static void lengthOfText(Check check) {
        fails(check, "", 1, 0);
        fails(check, " ", 1, 1);
        fails(check, "park", 1, 4);
        fails(check, "park 0", 1, 6);
        fails(check, "park 0 \n", 1, 8);
        fails(check, "park" + " ".repeat(396), 1, 400);
    }

    private static void lowestCode(Check check) {
        fails(check, "park 9999;", 1, 5);
        fails(check, "park 0;back 0006;", 1, 12);
        fails(check, "park 2;car abcdefgh 0;car abcdefghabcdefgh 0;", 1, 26);
        fails(check, "park 0;carcarcar", 1, 7);
        fails(check, "park 1;car a 9999;", 1, 13);
        ScriptTests.fails(check, "repeat 1000(sort;);", 1, 7);
        ScriptTests.fails(check, "repeat 1(repeat 1(" + "sort;".repeat(28) + "repeat 1(", 3, 158);
    }

    private static void notAllowed(Check check) {
        fails(check, "pork 0;", 1, 0);
        fails(check, "park a;", 1, 5);
        fails(check, "park 0 0;", 1, 7);
        fails(check, "park 0;park 0;", 1, 7);
        fails(check, "park 1;cab a 0;", 1, 7);
        fails(check, "park 1;car 0 0;", 1, 11);
        fails(check, "park 1;car a a;", 1, 13);
        fails(check, "park 1;car a 0)", 1, 14);
        for (int sign = 0; sign < 256; sign++) {
            boolean isSpace = sign == ' ' || sign == '\n';
            if (!isSpace) {
                fails(check, "park 0;" + (char) sign, 1, 7);
            }
        }
    }

    private static void endsTooEarly(Check check) {
        String[] texts = {"", "park", "park 1", "park 1;back", "park 1;back 2", "park 1;car", "park 1;car a", "park 1;car a 1",
            "park 0;back", "park 0;back 2"};
        for (String text : texts) {
            fails(check, text, 1, text.length());
            fails(check, text + " \n ", 1, text.length() + 3);
        }
        String[] scripts = {"sort", "prefer a", "prefer a 1", "repeat", "repeat 2", "repeat 2(", "repeat 2(sort;)"};
        for (String script : scripts) {
            ScriptTests.fails(check, script, 1, script.length());
        }
    }

    private static void fewerCars(Check check) {
        fails(check, "park 1;", 1, 7);
        fails(check, "park 1; \n", 1, 9);
        fails(check, "park 1;back 2;", 1, 14);
        fails(check, "park 3;car a 0;car b 0;", 1, 23);
        fails(check, "park 3;car a 0;car b 0;  ", 1, 25);
        fails(check, "park 11;" + ELEVEN.substring(0, 80), 1, 88);
    }

    private static void tooLong(Check check) {
        fails(check, "parkpark 0;", 1, 0);
        fails(check, "parkparkp 0;", 1, 0);
        fails(check, "park 0000;", 1, 5);
        fails(check, "park 0;back 0001;", 1, 12);
        fails(check, "park 1;car abcdefghi 0;", 1, 11);
        fails(check, "park 1;car a 0000;", 1, 13);
        fails(check, "park 1;car a " + "1".repeat(387), 1, 13);
        fails(check, "park 1;car a 1 abcdefghi", 1, 15);
        fails(check, "park 1;car a 1 0000", 1, 15);
        ScriptTests.fails(check, "swap abcdefghi;", 1, 5);
        ScriptTests.fails(check, "turn 0001;", 1, 5);
    }

    private static void outOfRange(Check check) {
        fails(check, "park 12;", 2, 5);
        fails(check, "park 0;back 6;", 2, 12);
        fails(check, "park 1;car a 2;", 2, 13);
        fails(check, "park 11;car a 12;", 2, 14);
        ScriptTests.fails(check, "repeat 0(sort;);", 2, 7);
        ScriptTests.fails(check, "repeat 21(sort;);", 2, 7);
    }

    private static void nameTwice(Check check) {
        fails(check, "park 2;car a 0;car a 1;", 3, 19);
        fails(check, "park 2;car abcdefgh 0;car abcdefgh 1;", 3, 26);
        fails(check, "park 11;" + ELEVEN.replace("k", "a"), 3, 92);
        fails(check, "park 11;" + ELEVEN.replace("k", "j"), 3, 92);
        reads(check, "park 3;car a 0;car aa 0;car aaaaaaaa 0;", "a aa aaaaaaaa / 0 0 0 / 0");
        reads(check, "park 2;car abcdefgh 0;car abcdefgi 0;", "abcdefgh abcdefgi / 0 0 / 0");
    }

    private static void carTooMany(Check check) {
        fails(check, "park 0;car a 0;", 5, 7);
        fails(check, "park 0;back 0;\ncar", 5, 15);
        fails(check, "park 1;car a 0;car a 9;", 5, 15);
        fails(check, "park 11;" + ELEVEN + " car l 0;", 5, 98);
        fails(check, "park 1;car a 0;cat b 0;", 1, 15);
        fails(check, "park 1;car a 0;back 0;", 1, 15);
    }

    private static void newObject(Check check) {
        ParkingCircle x = new ParkingCircle();
        ParkingCircle y = Circles.read("park 0;");
        check.same("settings", Circles.settings(x), Circles.settings(y));
        check.same("settings", Circles.settings(x), "0 1 0 0 0 0 0 0 0 0");
        check.same("isParking", x.isParking(), y.isParking());
        check.same("who", x.who(0), y.who(0));
        check.same("report", Circles.reported(x), Circles.reported(y));
        check.same("accounts", Circles.accounts(x), "0 0 0 0 0");
        check.noArgument("a byte in the buffer", () -> x.truncate(1));
        check.same("undo", x.undo(), -1);
    }

    private static void eachByte(Check check) {
        for (int before = 0; before <= 20; before += 20) {
            for (int place = 0; place < 20; place++) {
                for (int sign : new int[] {'!', 0, 128, 255}) {
                    int[] row = {SPACES, SPACES, SPACES, SPACES, SPACES};
                    row[place / 4] ^= (' ' ^ sign) << 8 * (3 - place % 4);
                    ParkingCircle x = new ParkingCircle();
                    for (int i = 0; i < before; i += 20) {
                        x.feed(SPACES, SPACES, SPACES, SPACES, SPACES);
                    }
                    x.feed(row[0], row[1], row[2], row[3], row[4]);
                    check.noArgument("byte " + sign, () -> x.readText());
                    check.same("its place", x.errorPosition(), before + place);
                }
            }
        }
    }

    private static void newNumber(Check check) {
        ParkingCircle x = new ParkingCircle();
        for (int bytes = 20; bytes <= 400; bytes += 20) {
            check.same("feed", x.feed(-1, 0, Integer.MIN_VALUE, Integer.MAX_VALUE, 1), bytes);
        }
        x.truncate(1);
        check.same("behind one byte", x.feed(0, 0, 0, 0, 0), 21);
        x.truncate(0);
        check.same("behind none", x.feed(0, 0, 0, 0, 0), 20);
    }

    private static void fullBuffer(Check check) {
        ParkingCircle x = new ParkingCircle();
        Circles.feed(x, "park 0;" + " ".repeat(393));
        check.noState("400 bytes are there", () -> x.feed(0, 0, 0, 0, 0));
        check.same("400 bytes stay", x.truncate(400), 400);
        x.truncate(381);
        check.noState("381 bytes are there", () -> x.feed(0, 0, 0, 0, 0));
        check.noArgument("381 bytes stay", () -> x.truncate(382));
        x.truncate(380);
        check.same("380 bytes are there", x.feed(SPACES, SPACES, SPACES, SPACES, SPACES), 400);
        check.same("the text", x.readText(), 0);
    }

    private static void truncates(Check check) {
        ParkingCircle x = new ParkingCircle();
        Circles.feed(x, "park 0;!");
        x.truncate(8);
        check.noArgument("no byte less", () -> x.readText());
        check.same("the last byte", x.errorPosition(), 7);
        Circles.feed(x, "park 0;!");
        x.truncate(7);
        check.same("one byte less", x.readText(), 0);
        Circles.feed(x, "park 0;!");
        x.truncate(0);
        check.noArgument("all bytes less", () -> x.readText());
        check.same("an empty text", x.errorPosition(), 0);
        Circles.feed(x, "park 0;!");
        x.truncate(7);
        x.feed(SPACES, SPACES, SPACES, SPACES, SPACES);
        check.same("what is fed then stands behind those that are left", x.readText(), 0);
    }

    private static void sameNumber(Check check) {
        ParkingCircle x = new ParkingCircle();
        check.same("an empty buffer", x.truncate(0), 0);
        Circles.feed(x, "park 0;" + " ".repeat(393));
        for (int length : new int[] {400, 399, 20, 7, 7, 0, 0}) {
            check.same("truncate", x.truncate(length), length);
        }
    }

    private static void noLength(Check check) {
        check.onlyArguments("an empty buffer", 0, 0, n -> new ParkingCircle().truncate(n));
        check.onlyArguments("20 bytes", 0, 20, n -> withBytes(20).truncate(n));
        check.onlyArguments("400 bytes", 0, 400, n -> withBytes(400).truncate(n));
        ParkingCircle x = withBytes(20);
        x.truncate(7);
        check.noArgument("one more than what is left of them", () -> x.truncate(8));
        check.same("just what is left", x.truncate(7), 7);
    }

    private static ParkingCircle withBytes(int bytes) {
        ParkingCircle x = new ParkingCircle();
        Circles.feed(x, " ".repeat(bytes));
        return x;
    }

    private static void replaces(Check check) {
        ParkingCircle x = Circles.of(2, 0, 0);
        x.save();
        x.swap(1);
        x.prefer(0, 1);
        int length = x.report();
        Circles.feed(x, "park 0;");
        check.same("cars", x.readText(), 0);
        check.same("cars and BACK", Circles.state(x), " /  / 0");
        check.same("what can be undone", x.undo(), -1);
        check.same("accounts", Circles.accounts(x), "1 1 0 0 0");
        check.same("refusal", x.refusal(), 3);
        check.same("report", Circles.lastReport(x, length), "b! a! .\n");
        check.same("what is saved", x.restore(), 2);
        check.same("what is saved", Circles.state(x), "a b / 0 0 / 2");
    }

    private static void emptiesBuffer(Check check) {
        ParkingCircle x = new ParkingCircle();
        Circles.feed(x, "park 1;car a 1;");
        x.readText();
        check.noArgument("behind a text", () -> x.truncate(1));
        check.noArgument("it is not read again", () -> x.readText());
        Circles.feed(x, "park 12;");
        check.noArgument("readText", () -> x.readText());
        check.noArgument("behind an error", () -> x.truncate(1));
        check.noArgument("an empty buffer", () -> x.readText());
        check.noArgument("behind that", () -> x.truncate(1));
        check.same("as many bytes as at first", x.feed(SPACES, SPACES, SPACES, SPACES, SPACES), 20);
    }

    private static void numberOfCars(Check check) {
        ParkingCircle x = new ParkingCircle();
        Circles.feed(x, "park 11;" + ELEVEN);
        check.same("the most", x.readText(), 11);
        Circles.feed(x, "park 0;");
        check.same("none", x.readText(), 0);
        Circles.feed(x, "park 1;car a 0;");
        check.same("one", x.readText(), 1);
    }

    private static void textWithError(Check check) {
        ParkingCircle x = Circles.of(2, 0, 0);
        x.save();
        x.prefer(0, 1);
        x.swap(1);
        int length = x.report();
        String[] texts = {"", "park 12;", "park 1;back 1;car z 1;car y 0;", "park 2;back 1;car z 1;car z 0;", "park 0;;"};
        for (String text : texts) {
            Circles.feed(x, text);
            check.noArgument(text, () -> x.readText());
            check.noArgument("the buffer is empty behind " + text, () -> x.truncate(1));
            check.same("an error behind " + text, x.errorCode() > 0, true);
            check.same("cars behind " + text, Circles.state(x), "a b / 1 0 / 2");
            check.same("accounts behind " + text, Circles.accounts(x), "1 1 0 0 0");
            check.same("refusal behind " + text, x.refusal(), 3);
            check.same("report behind " + text, Circles.lastReport(x, length), "b! a! .\n");
        }
        check.same("what can be undone", x.undo(), 0);
        check.same("cars", Circles.state(x), "a b / 0 0 / 2");
        x.go(0);
        check.same("what is saved", x.restore(), 2);
    }

    private static void noErrorCode(Check check) {
        ParkingCircle x = new ParkingCircle();
        check.same("there was none", x.errorCode(), 0);
        Circles.feed(x, "park 12;");
        check.noArgument("readText", () -> x.readText());
        check.same("there is one", x.errorCode(), 2);
        Circles.feed(x, "park 0;");
        x.readText();
        check.same("a text without one", x.errorCode(), 0);
        check.noArgument("readText", () -> x.readText());
        Circles.script(x, "");
        check.same("a script without one", x.errorCode(), 0);
    }

    private static void latestCode(Check check) {
        ParkingCircle x = new ParkingCircle();
        Circles.feed(x, "park 0;car a 0;");
        check.noArgument("readText", () -> x.readText());
        check.same("more cars", x.errorCode(), 5);
        x.undo();
        x.sort();
        check.noIndex("a call that throws", () -> x.go(0));
        check.same("other calls leave it", x.errorCode(), 5);
        Circles.feed(x, "repeat 1(repeat 1(repeat 1(););););");
        check.noArgument("runScript", () -> x.runScript());
        check.same("three repeats", x.errorCode(), 3);
        check.noArgument("readText", () -> x.readText());
        check.same("an empty text", x.errorCode(), 1);
    }

    private static void noErrorPosition(Check check) {
        ParkingCircle x = new ParkingCircle();
        check.same("there was none", x.errorPosition(), -1);
        check.noArgument("readText", () -> x.readText());
        check.same("the position 0", x.errorPosition(), 0);
        Circles.feed(x, "park 0;");
        x.readText();
        check.same("a text without one", x.errorPosition(), -1);
        Circles.feed(x, ";");
        check.noArgument("runScript", () -> x.runScript());
        check.same("the position 0", x.errorPosition(), 0);
        Circles.script(x, "sort;go z;");
        check.same("a script that ends early has none", x.errorPosition(), -1);
    }

    private static void errorPosition(Check check) {
        ParkingCircle x = new ParkingCircle();
        Circles.feed(x, " ".repeat(400));
        check.noArgument("readText", () -> x.readText());
        check.same("the greatest one", x.errorPosition(), 400);
        Circles.feed(x, " ".repeat(399) + ";");
        check.noArgument("runScript", () -> x.runScript());
        check.same("the last byte", x.errorPosition(), 399);
        x.feed(0, 0, 0, 0, 0);
        check.same("other calls leave it", x.errorPosition(), 399);
    }
}
