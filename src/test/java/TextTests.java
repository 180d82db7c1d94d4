/** Promises 1 to 4, 6 and 7: a new object, the buffer, and the texts of systems. */
final class TextTests {
    private static final int FOUR_SPACES = 0x20202020;

    private TextTests() {
    }

    static void all(Check check) {
        check.test("promise 1: a new object", TextTests::newObject);
        check.test("promise 1: objects share nothing", TextTests::objectsShareNothing);
        check.test("promise 2: feed adds 20 bytes, the most significant ones first", TextTests::feed);
        check.test("promise 2: feed ends at 400 bytes", TextTests::feedEnds);
        check.test("promise 3: truncate", TextTests::truncate);
        check.test("promise 4: readText reads what the grammar allows", TextTests::readText);
        check.test("promise 4: readText replaces the cars and forgets undo, and leaves the rest", TextTests::readReplaces);
        check.test("promise 4: readText with an error changes the buffer and the error alone", TextTests::errorChangesNothing);
        check.test("promises 4, 6, 7: code 1, what the grammar does not allow", TextTests::grammarErrors);
        check.test("promises 4, 6, 7: code 1, a text that ends too early", TextTests::earlyEnds);
        check.test("promises 4, 6, 7: code 1, words and numbers that are too long", TextTests::tooLong);
        check.test("promises 4, 6, 7: code 2, numbers out of range", TextTests::rangeErrors);
        check.test("promises 4, 6, 7: code 3, a NAME twice", TextTests::nameErrors);
        check.test("promises 4, 6, 7: code 5, a car more than told", TextTests::carErrors);
        check.test("promises 4, 6, 7: bytes that are no tokens", TextTests::strangeBytes);
        check.test("promises 6, 7: the error is that of the latest reading", TextTests::latestError);
    }

    private static void newObject(Check check) {
        ParkingCircle x = new ParkingCircle();
        int[] settings = {0, 1, 0, 0, 0, 0, 0, 0, 0, 0};
        for (int what = 0; what < settings.length; what++) {
            check.same("setting " + what, x.setting(what), settings[what]);
        }
        check.same("accounts", Circles.accounts(x), "0 0 0 0 0");
        check.same("refusal", x.refusal(), 0);
        check.same("errorCode", x.errorCode(), 0);
        check.same("errorPosition", x.errorPosition(), ParkingCircle.NONE);
        check.same("NONE", ParkingCircle.NONE, -1);
        check.same("who(0)", x.who(0), -1);
        check.same("wanted(0)", x.wanted(0), 0);
        check.noIndex("who(1)", () -> x.who(1));
        check.noIndex("car(0, 0)", () -> x.car(0, 0));
        check.noArgument("an empty buffer", () -> x.truncate(1));
        check.noIndex("no report", () -> x.reportByte(0));
        check.noState("nothing saved", () -> x.restore());
        check.same("undo", x.undo(), -1);
        check.same("accounts behind it", Circles.accounts(x), "0 0 0 0 0");
        check.same("report", Circles.reported(x), ".\n");
    }

    private static void objectsShareNothing(Check check) {
        ParkingCircle x = Circles.of(1, 0, 0, 2);
        x.save();
        x.report();
        x.prefer(0, 1);
        ParkingCircle y = new ParkingCircle();
        check.same("cars", y.setting(0), 0);
        check.same("accounts", Circles.accounts(y), "0 0 0 0 0");
        check.same("undo", y.undo(), -1);
        check.noState("saved", () -> y.restore());
        check.noIndex("report", () -> y.reportByte(0));
    }

    private static void feed(Check check) {
        for (int place = 0; place < 20; place++) {
            int[] words = {FOUR_SPACES, FOUR_SPACES, FOUR_SPACES, FOUR_SPACES, FOUR_SPACES};
            words[place / 4] ^= (' ' ^ '!') << 8 * (3 - place % 4);
            ParkingCircle x = new ParkingCircle();
            check.same("bytes", x.feed(words[0], words[1], words[2], words[3], words[4]), 20);
            check.noArgument("a strange byte", () -> x.readText());
            check.same("error", Circles.error(x), "1 at " + place);
        }
        ParkingCircle x = new ParkingCircle();
        check.same("bytes", x.feed(0x7061726B, 0x20313B63, 0x61722061, 0x20313B20, FOUR_SPACES), 20);
        check.same("cars", x.readText(), 1);
        check.same("preference", x.car(0, 0), 1);
        check.same("bytes then", x.feed(0, 0, 0, 0, 0), 20);
        check.noArgument("zeros", () -> x.readText());
        check.same("error", Circles.error(x), "1 at 0");
    }

    private static void feedEnds(Check check) {
        ParkingCircle x = new ParkingCircle();
        for (int bytes = 20; bytes <= 400; bytes += 20) {
            check.same("bytes", x.feed(0x20202020, -1, Integer.MIN_VALUE, Integer.MAX_VALUE, 0), bytes);
        }
        check.noState("400 bytes are there", () -> x.feed(0, 0, 0, 0, 0));
        check.same("they stay", x.truncate(400), 400);
        check.same("381 bytes", x.truncate(381), 381);
        check.noState("401 bytes there would be", () -> x.feed(0, 0, 0, 0, 0));
        check.same("380 bytes", x.truncate(380), 380);
        check.same("400 bytes", x.feed(0, 0, 0, 0, 0), 400);
        Circles.feed(x, "park 1;" + " ".repeat(386) + "car a 1");
        check.same("400 bytes", x.truncate(400), 400);
        check.noArgument("no semicolon fits", () -> x.readText());
        check.same("error", Circles.error(x), "1 at 400");
        Circles.feed(x, "park 1;" + "\n".repeat(385) + "car a 1;");
        check.same("400 bytes read", x.readText(), 1);
    }

    private static void truncate(Check check) {
        ParkingCircle x = new ParkingCircle();
        check.same("nothing there", x.truncate(0), 0);
        x.feed(0x7061726B, 0x20303B21, 0, 0, 0);
        check.noArgument("21", () -> x.truncate(21));
        check.noArgument("-1", () -> x.truncate(-1));
        check.noArgument("least int", () -> x.truncate(Integer.MIN_VALUE));
        check.noArgument("greatest int", () -> x.truncate(Integer.MAX_VALUE));
        check.same("20", x.truncate(20), 20);
        check.same("8", x.truncate(8), 8);
        check.noArgument("9", () -> x.truncate(9));
        check.same("7", x.truncate(7), 7);
        check.same("cars", x.readText(), 0);
        check.noArgument("an empty buffer", () -> x.truncate(1));
    }

    private static void readText(Check check) {
        reads(check, "park 0;", " /  / 0");
        reads(check, "park0;", " /  / 0");
        reads(check, "park 0;back 5;", " /  / 5");
        reads(check, "\n park \n 2 ; back\n1 ;car  x 2;\ncar y 0 ; \n", "x y / 2 0 / 1");
        reads(check, "park3;back0;car a0;car b1;car c3;", "a b c / 0 1 3 / 0");
        reads(check, "park 001;back 005;car a 001;", "a / 1 / 5");
        reads(check, "park 3;car car 1;car park 2;car back 3;", "car park back / 1 2 3 / 0");
        reads(check, "park 2;car abcdefgh 1;car abcdefgi 2;", "abcdefgh abcdefgi / 1 2 / 0");
        reads(check, "park 2;car a 0;car aa 0;", "a aa / 0 0 / 0");
        StringBuilder text = new StringBuilder("park 11;back 3;");
        for (int car = 0; car < 11; car++) {
            text.append("car ").append("zzzzzzz").append((char) ('a' + car)).append(' ').append(11 - car).append(';');
        }
        check.same("11 cars", Circles.preferences(Circles.read(text.toString())), "11 10 9 8 7 6 5 4 3 2 1");
    }

    static void reads(Check check, String text, String state) {
        ParkingCircle x = Circles.of(4, 1, 2);
        Circles.feed(x, text);
        check.same("cars of " + text, x.readText(), x.setting(0));
        check.same("state of " + text, Circles.state(x), state);
        check.same("error of " + text, Circles.error(x), "0 at -1");
        check.noArgument("the buffer is empty behind " + text, () -> x.truncate(1));
    }

    private static void readReplaces(Check check) {
        ParkingCircle x = Circles.of(2, 0, 0);
        x.save();
        x.swap(1);
        x.prefer(0, 1);
        int length = x.report();
        Circles.feed(x, "park 1;car z 1;");
        check.same("cars", x.readText(), 1);
        check.same("state", Circles.state(x), "z / 1 / 0");
        check.same("refusal", x.refusal(), 3);
        check.same("accounts", Circles.accounts(x), "1 1 0 0 0");
        check.same("report", Circles.lastReport(x, length), "b! a! .\n");
        check.same("undo is forgotten", x.undo(), -1);
        check.same("accounts", Circles.accounts(x), "1 1 0 0 0");
        check.same("what was saved", x.restore(), 2);
        check.same("state", Circles.state(x), "a b / 0 0 / 2");
    }

    private static void errorChangesNothing(Check check) {
        ParkingCircle x = Circles.of(2, 0, 0);
        x.save();
        x.prefer(0, 1);
        x.prefer(1, 2);
        x.swap(1);
        int length = x.report();
        Circles.feed(x, "park 3;back 1;car z 1;car y 2;car z 3;");
        check.noArgument("a NAME twice", () -> x.readText());
        check.noArgument("the buffer is empty", () -> x.truncate(1));
        check.same("error", Circles.error(x), "3 at 34");
        check.same("state", Circles.state(x), "a b / 1 2 / 2");
        check.same("refusal", x.refusal(), 3);
        check.same("accounts", Circles.accounts(x), "2 1 0 0 0");
        check.same("report", Circles.lastReport(x, length), ". a! b!\n");
        check.same("undo", x.undo(), 1);
        check.same("state", Circles.state(x), "a b / 1 0 / 2");
        check.same("what was saved", x.restore(), 2);
        check.same("state", Circles.state(x), "a b / 0 0 / 2");
    }

    private static void grammarErrors(Check check) {
        fails(check, "pork 0;", 1, 0);
        fails(check, "0;", 1, 0);
        fails(check, ";", 1, 0);
        fails(check, " \nparking 0;", 1, 2);
        fails(check, "park;", 1, 4);
        fails(check, "park x;", 1, 5);
        fails(check, "park 0 0;", 1, 7);
        fails(check, "park 0 back 1;", 1, 7);
        fails(check, "park 0)", 1, 6);
        fails(check, "park 0;;", 1, 7);
        fails(check, "park 0;(", 1, 7);
        fails(check, "park 0; 0", 1, 8);
        fails(check, "park 0;park 0;", 1, 7);
        fails(check, "park 0;back;", 1, 11);
        fails(check, "park 0;back x;", 1, 12);
        fails(check, "park 0;back 1)", 1, 13);
        fails(check, "park 0;back 1;back 1;", 1, 14);
        fails(check, "park 1;back 1;back 1;", 1, 14);
        fails(check, "park 1;car a 0;back 1;", 1, 15);
        fails(check, "park 1;cat a 0;", 1, 7);
        fails(check, "park 1;7 a 0;", 1, 7);
        fails(check, "park 1;car 1 0;", 1, 11);
        fails(check, "park 1;car ;", 1, 11);
        fails(check, "park 1;car a b;", 1, 13);
        fails(check, "park 1;car a;", 1, 12);
        fails(check, "park 1;car a 0 0;", 1, 15);
        fails(check, "park 1;car a 0 car b 0;", 1, 15);
        fails(check, "park 1;car a 0;cat b 0;", 1, 15);
        fails(check, "park 1;cara 0;", 1, 7);
    }

    private static void earlyEnds(Check check) {
        fails(check, "", 1, 0);
        fails(check, " \n ", 1, 3);
        fails(check, "park", 1, 4);
        fails(check, "park ", 1, 5);
        fails(check, "park 0", 1, 6);
        fails(check, "park 0 \n", 1, 8);
        fails(check, "park 0;back", 1, 11);
        fails(check, "park 0;back 1", 1, 13);
        fails(check, "park 1;", 1, 7);
        fails(check, "park 1;  ", 1, 9);
        fails(check, "park 1;back 1;", 1, 14);
        fails(check, "park 1;car", 1, 10);
        fails(check, "park 1;car a", 1, 12);
        fails(check, "park 1;car a 0", 1, 14);
        fails(check, "park 3;car a 0;car b 0;", 1, 23);
        fails(check, "park 3;car a 0;car b 0;\n\n", 1, 25);
    }

    private static void tooLong(Check check) {
        fails(check, "parkparkpark 0;", 1, 0);
        fails(check, "park 0000;", 1, 5);
        fails(check, "park 1234;", 1, 5);
        fails(check, "park 0;back 0001;", 1, 12);
        fails(check, "park 1;car abcdefghi 0;", 1, 11);
        fails(check, "park 1;car a 0000;", 1, 13);
        fails(check, "park 2;car abcdefgh 0;car abcdefghi 0;", 1, 26);
        fails(check, "park 0;carcarcar a 0;", 1, 7);
        fails(check, "park 1;car a 0;carcarcar", 1, 15);
        fails(check, "park 0;0000", 1, 7);
        fails(check, "park 1;car a 0 abcdefghi", 1, 15);
        fails(check, "park 1;car a 0 0000", 1, 15);
    }

    private static void rangeErrors(Check check) {
        fails(check, "park 12;", 2, 5);
        fails(check, "park 999", 2, 5);
        fails(check, "park 0;back 6;", 2, 12);
        fails(check, "park 0;back 999;", 2, 12);
        fails(check, "park 1;car a 2;", 2, 13);
        fails(check, "park 1;car a 999x", 2, 13);
        fails(check, "park 2;car a 2;car b 3;", 2, 21);
        fails(check, "park 11;car a 12;", 2, 14);
        reads(check, "park 2;car a 2;car b 2;", "a b / 2 2 / 0");
    }

    private static void nameErrors(Check check) {
        fails(check, "park 2;car a 0;car a 0;", 3, 19);
        fails(check, "park 2;car abcdefgh 0;car \n abcdefgh 7;", 3, 28);
        fails(check, "park 3;car a 0;car b 0;car a", 3, 27);
        fails(check, "park 3;car a 0;car b 0;car b 9;", 3, 27);
    }

    private static void carErrors(Check check) {
        fails(check, "park 0;car a 0;", 5, 7);
        fails(check, "park 0;back 1; car", 5, 15);
        fails(check, "park 1;car a 0;car a 0;", 5, 15);
        fails(check, "park 1;car a 0;\ncar 99", 5, 16);
    }

    private static void strangeBytes(Check check) {
        for (int sign = 0; sign < 256; sign++) {
            boolean isToken = sign >= 'a' && sign <= 'z' || sign >= '0' && sign <= '9' || sign == ' ' || sign == '\n';
            String text = "park" + (char) sign + "0;";
            if (!isToken) {
                fails(check, text, 1, 4);
            }
            if (!isToken && sign != ';') {
                fails(check, "park 0" + (char) sign + ";", 1, 6);
                fails(check, "park 1;car a" + (char) sign + "0;", 1, 12);
            }
        }
        fails(check, "Park 0;", 1, 0);
        fails(check, "park 1;car A 0;", 1, 11);
        fails(check, "park -1;", 1, 5);
        fails(check, "park 1;car aB 0;", 1, 12);
    }

    private static void latestError(Check check) {
        ParkingCircle x = new ParkingCircle();
        Circles.feed(x, "park 0;back 9;");
        check.noArgument("readText", () -> x.readText());
        check.same("error", Circles.error(x), "2 at 12");
        x.feed(0, 0, 0, 0, 0);
        x.truncate(0);
        x.sort();
        check.same("error stays", Circles.error(x), "2 at 12");
        check.same("script", x.runScript(), 0);
        check.same("no error", Circles.error(x), "0 at -1");
        Circles.feed(x, "sort; sort");
        check.noArgument("runScript", () -> x.runScript());
        check.same("error", Circles.error(x), "1 at 10");
        x.undo();
        check.same("error stays", Circles.error(x), "1 at 10");
        Circles.feed(x, "park 0;");
        x.readText();
        check.same("no error", Circles.error(x), "0 at -1");
    }

    static void fails(Check check, String text, int code, int position) {
        ParkingCircle x = Circles.of(2, 1, 0);
        Circles.feed(x, text);
        check.noArgument("readText of " + text, () -> x.readText());
        check.same("error of " + text, Circles.error(x), code + " at " + position);
        check.same("state behind " + text, Circles.state(x), "a b / 1 0 / 2");
        check.noArgument("the buffer is empty behind " + text, () -> x.truncate(1));
    }
}
