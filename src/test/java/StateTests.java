/** Promises 8 to 20: what there is, and once some cars have come. */
final class StateTests {
    private StateTests() {
    }

    static void all(Check check) {
        check.test("promise 8: setting", StateTests::setting);
        check.test("promise 8: setting with BACK", StateTests::settingWithBack);
        check.test("promise 9: letter", StateTests::letter);
        check.test("promise 10: car", StateTests::car);
        check.test("promise 10: MOVED with BACK", StateTests::moved);
        check.test("promise 11: who", StateTests::who);
        check.test("promise 12: wanted", StateTests::wanted);
        check.test("promise 13: ranked", StateTests::ranked);
        check.test("promise 14: spotByLine", StateTests::spotByLine);
        check.test("promise 15: gap", StateTests::gap);
        check.test("promise 16: isParking", StateTests::isParking);
        check.test("promise 17: breakAt", StateTests::breakAt);
        check.test("promise 18: whoAfter", StateTests::whoAfter);
        check.test("promise 19: longestAfter", StateTests::longestAfter);
        check.test("promise 20: inWay", StateTests::inWay);
    }

    /** The spots 0 to 4 are taken by c, none, a, b and d. */
    private static ParkingCircle four() {
        return Circles.of(0, 2, 2, 0, 2);
    }

    private static ParkingCircle eleven() {
        return Circles.of(0, 11, 11, 11, 11, 11, 11, 11, 11, 11, 11, 11);
    }

    private static void setting(Check check) {
        check.same("four", Circles.settings(four()), "4 5 0 1 2 3 3 3 2 2");
        check.same("none", Circles.settings(new ParkingCircle()), "0 1 0 0 0 0 0 0 0 0");
        check.same("one", Circles.settings(Circles.of(0, 1)), "1 2 0 0 1 0 0 1 1 1");
        check.same("one at 0", Circles.settings(Circles.of(3, 0)), "1 2 3 1 1 0 0 0 1 1");
        check.same("eleven", Circles.settings(eleven()), "11 12 0 10 1 55 55 1 1 1");
        check.same("all lucky", Circles.settings(Circles.of(5, 0, 1, 2, 3, 4, 5, 6, 7, 8, 9, 10)), "11 12 5 11 11 0 0 0 11 11");
        for (int what : new int[] {-1, 10, 11, Integer.MIN_VALUE, Integer.MAX_VALUE}) {
            check.noArgument("setting " + what, () -> four().setting(what));
        }
    }

    private static void settingWithBack(Check check) {
        check.same("back 2", Circles.settings(Circles.of(2, 1, 1, 1)), "3 4 2 2 1 -3 3 1 1 1");
        check.same("back 1", Circles.settings(Circles.of(1, 1, 1, 1)), "3 4 1 3 1 0 2 0 1 1");
        check.same("back 1 of four", Circles.settings(Circles.of(1, 2, 2, 0, 2)), "4 5 1 4 2 0 2 0 2 2");
        check.same("as much back as on", Circles.settings(Circles.of(5, 0, 0)), "2 3 5 1 1 -1 1 1 1 1");
        check.same("back 5 of eleven", Circles.settings(Circles.of(5, 11, 11, 11, 11, 11, 11, 11, 11, 11, 11, 11)),
                "11 12 5 5 1 0 30 6 1 1");
    }

    private static void letter(Check check) {
        ParkingCircle x = Circles.read("park 2;car abyz 0;car zyxwvuts 0;");
        int[] first = {1, 2, 25, 26, 0, 0, 0, 0, 0, 0};
        int[] second = {26, 25, 24, 23, 22, 21, 20, 19, 0, 0};
        for (int i = 0; i < 10; i++) {
            check.same("letter " + i, x.letter(0, i), first[i]);
            check.same("letter " + i, x.letter(1, i), second[i]);
        }
        for (int i : new int[] {-1, -2, 8, 64, 100, Integer.MIN_VALUE, Integer.MAX_VALUE}) {
            check.same("letter " + i, x.letter(0, i), 0);
            check.same("letter " + i, x.letter(1, i), 0);
        }
        for (int car : new int[] {-1, 2, 11, Integer.MIN_VALUE, Integer.MAX_VALUE}) {
            check.noIndex("letter of " + car, () -> x.letter(car, 0));
        }
        String alphabet = "abcdefghijklmnopqrstuvwxyz";
        for (int i = 0; i < 26; i++) {
            check.same("a letter", Circles.read("park 1;car " + alphabet.charAt(i) + " 0;").letter(0, 0), i + 1);
        }
    }

    private static void car(Check check) {
        ParkingCircle x = four();
        String[] rows = {"2 2 0 2", "2 3 0 4", "0 1 0 2", "1 0 1 0", "1 2 1 3", "0 0 3 0"};
        for (int what = 0; what < rows.length; what++) {
            check.same("car " + what, Circles.numbers(x, what), rows[what]);
        }
        check.same("RUNS of eleven", Circles.numbers(eleven(), 4), "1 2 3 4 5 6 7 8 9 10 11");
        check.same("RUNS that join others", Circles.numbers(Circles.of(0, 0, 1, 3, 2, 1), 4), "1 2 1 3 5");
        for (int what : new int[] {-1, 6, 7, Integer.MIN_VALUE, Integer.MAX_VALUE}) {
            check.noArgument("what " + what, () -> x.car(0, what));
            check.noIndex("the car comes first", () -> x.car(4, what));
        }
        for (int car : new int[] {-1, 4, 5, 11, Integer.MIN_VALUE, Integer.MAX_VALUE}) {
            check.noIndex("car " + car, () -> x.car(car, 0));
        }
    }

    private static void moved(Check check) {
        ParkingCircle x = Circles.of(2, 1, 1, 1);
        String[] rows = {"1 1 1", "1 0 3", "0 -1 -2", "1 0 0", "1 1 1", "2 2 2"};
        for (int what = 0; what < rows.length; what++) {
            check.same("car " + what, Circles.numbers(x, what), rows[what]);
        }
        check.same("RUNS with BACK", Circles.numbers(Circles.of(1, 1, 2, 1, 1), 4), "1 2 1 4");
        check.same("the nearest one first", Circles.spots(Circles.of(3, 3, 2, 3, 3)), "3 2 1 0");
        check.same("back round the circle", Circles.spots(Circles.of(3, 0, 0, 0, 0)), "0 4 3 2");
        check.same("MOVED round the circle", Circles.numbers(Circles.of(3, 0, 0, 0, 0), 2), "0 -1 -2 -3");
        check.same("on round the circle", Circles.spots(Circles.of(0, 4, 4, 4, 4)), "4 0 1 2");
        check.same("MOVED on", Circles.numbers(Circles.of(0, 4, 4, 4, 4), 2), "0 1 2 3");
        check.same("back by 1, on by 1", Circles.numbers(Circles.of(1, 2, 2, 2, 2), 2), "0 -1 1 2");
    }

    private static void who(Check check) {
        ParkingCircle x = four();
        int[] takers = {2, -1, 0, 1, 3};
        for (int spot = 0; spot < 5; spot++) {
            check.same("who " + spot, x.who(spot), takers[spot]);
        }
        for (int spot : new int[] {-1, 5, 6, 12, Integer.MIN_VALUE, Integer.MAX_VALUE}) {
            check.noIndex("who " + spot, () -> x.who(spot));
        }
        check.same("the last spot of eleven", eleven().who(11), 0);
        check.noIndex("spot 12", () -> eleven().who(12));
    }

    private static void wanted(Check check) {
        ParkingCircle x = four();
        int[] wishes = {1, 0, 3, 0, 0};
        for (int spot = 0; spot < 5; spot++) {
            check.same("wanted " + spot, x.wanted(spot), wishes[spot]);
        }
        for (int spot : new int[] {-1, 5, 6, 12, Integer.MIN_VALUE, Integer.MAX_VALUE}) {
            check.noIndex("wanted " + spot, () -> x.wanted(spot));
        }
        check.same("the last spot of eleven", eleven().wanted(11), 11);
    }

    private static void ranked(Check check) {
        ParkingCircle x = four();
        int[] cars = {2, 0, 1, 3};
        for (int k = 0; k < 4; k++) {
            check.same("ranked " + k, x.ranked(k), cars[k]);
        }
        for (int k : new int[] {-2, -1, 4, 5, 11, 12, Integer.MIN_VALUE, Integer.MAX_VALUE}) {
            check.same("ranked " + k, x.ranked(k), -1);
        }
        check.same("none", new ParkingCircle().ranked(0), -1);
        check.same("eleven", eleven().ranked(10), 10);
    }

    private static void spotByLine(Check check) {
        ParkingCircle x = Circles.of(2, 1, 1, 1);
        check.same("a", x.spotByLine(0), 1);
        check.same("b", x.spotByLine(1), 0);
        check.same("c", x.spotByLine(2), 3);
        ParkingCircle y = eleven();
        for (int car = 0; car < 11; car++) {
            check.same("spot", y.spotByLine(car), (11 + car) % 12);
        }
        for (int car : new int[] {-1, 3, 4, 11, Integer.MIN_VALUE, Integer.MAX_VALUE}) {
            check.noIndex("spotByLine " + car, () -> x.spotByLine(car));
        }
        check.noIndex("without cars", () -> new ParkingCircle().spotByLine(0));
    }

    private static void gap(Check check) {
        check.same("none", new ParkingCircle().gap(), 0);
        check.same("four", four().gap(), 0);
        ParkingCircle x = four();
        check.same("GAP", x.setting(3), 1);
        check.same("gap", x.gap(), 0);
        x.prefer(3, 1);
        check.same("GAP", x.setting(3), 4);
        check.same("gap behind a change", x.gap(), 0);
        check.same("eleven", eleven().gap(), 0);
        for (int back = 0; back <= 5; back++) {
            check.same("back " + back, Circles.of(back, 3, 0, 0, 3, 3, 6, 6).gap(), 0);
        }
    }

    private static void isParking(Check check) {
        check.same("none", new ParkingCircle().isParking(), true);
        check.same("four", four().isParking(), false);
        check.same("turned", Circles.of(0, 0, 0, 3, 0).isParking(), true);
        check.same("one at 0", Circles.of(0, 0).isParking(), true);
        check.same("one at 1", Circles.of(0, 1).isParking(), false);
        check.same("back 2", Circles.of(2, 1, 1, 1).isParking(), false);
        check.same("back 1", Circles.of(1, 1, 1, 1).isParking(), true);
    }

    private static void breakAt(Check check) {
        ParkingCircle x = four();
        check.same("first", x.breakAt(0), 3);
        check.same("second", x.breakAt(1), 4);
        for (int k : new int[] {-2, -1, 2, 3, 12, Integer.MIN_VALUE, Integer.MAX_VALUE}) {
            check.same("breakAt " + k, x.breakAt(k), -1);
        }
        ParkingCircle y = Circles.of(0, 2, 3, 4, 0, 0, 0);
        StringBuilder row = new StringBuilder();
        for (int k = 0; k < y.setting(8); k++) {
            row.append(y.breakAt(k)).append(' ');
        }
        check.same("BREAKS", row.toString(), "6 ");
        ParkingCircle z = Circles.of(0, 5, 0, 2, 0, 2, 4);
        check.same("BREAKS", z.breakAt(0) + " " + z.breakAt(1) + " " + z.breakAt(2) + " " + z.breakAt(3), "2 4 5 6");
        check.same("none without cars", new ParkingCircle().breakAt(0), -1);
    }

    private static void whoAfter(Check check) {
        ParkingCircle x = four();
        int[][] takers = {{-1, -1, -1, -1, -1}, {-1, -1, 0, -1, -1}, {-1, -1, 0, 1, -1}, {2, -1, 0, 1, -1}, {2, -1, 0, 1, 3}};
        for (int cars = 0; cars < 5; cars++) {
            for (int spot = 0; spot < 5; spot++) {
                check.same("whoAfter " + cars + " " + spot, x.whoAfter(cars, spot), takers[cars][spot]);
            }
        }
        for (int off : new int[] {-1, 5, 6, 12, Integer.MIN_VALUE, Integer.MAX_VALUE}) {
            check.noArgument("cars " + off, () -> x.whoAfter(off, 0));
            check.noIndex("spot " + off, () -> x.whoAfter(0, off));
            check.noIndex("the spot comes first", () -> x.whoAfter(off, off));
        }
    }

    private static void longestAfter(Check check) {
        ParkingCircle x = four();
        int[] longest = {0, 1, 2, 2, 4};
        for (int cars = 0; cars < 5; cars++) {
            check.same("longestAfter " + cars, x.longestAfter(cars), longest[cars]);
        }
        for (int off : new int[] {-1, 5, 12, Integer.MIN_VALUE, Integer.MAX_VALUE}) {
            check.noArgument("cars " + off, () -> x.longestAfter(off));
        }
        check.same("in the middle", Circles.of(0, 1, 2, 4, 4, 1).longestAfter(3), 2);
        check.same("round the circle", Circles.of(0, 5, 0, 2, 3, 4).longestAfter(2), 2);
        check.same("round the circle", Circles.of(0, 5, 0, 2, 3, 4).longestAfter(4), 2);
        check.same("nearly all", Circles.of(0, 5, 0, 2, 3, 4).longestAfter(5), 5);
        check.same("eleven", eleven().longestAfter(11), 11);
        check.same("eleven", eleven().longestAfter(7), 7);
    }

    private static void inWay(Check check) {
        ParkingCircle x = four();
        int[] cars = {-1, 0, -1, 0, -1};
        for (int coming = 0; coming < 5; coming++) {
            check.same("inWay " + coming, x.inWay(coming), cars[coming]);
        }
        for (int off : new int[] {-1, 5, 12, Integer.MIN_VALUE, Integer.MAX_VALUE}) {
            check.noArgument("cars " + off, () -> x.inWay(off));
        }
        check.same("who was moved on", Circles.of(0, 2, 2, 3).inWay(2), 1);
        check.same("not with BACK", Circles.of(1, 2, 2, 3).inWay(2), -1);
        check.same("who went back", Circles.of(1, 2, 2, 1).inWay(2), 1);
        check.same("none without cars", new ParkingCircle().inWay(0), -1);
        check.noArgument("none without cars", () -> new ParkingCircle().inWay(1));
    }
}
