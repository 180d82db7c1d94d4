/** The boundary cases of the promises 41 to 48: changes. */
final class ChangeEdges {
    private ChangeEdges() {
    }

    static void all(Sentences sentences) {
        preferences(sentences);
        comingAndGoing(sentences);
        orders(sentences);
    }

    private static void preferences(Sentences sentences) {
        sentences.promise(41, "prefer(int car, int preference) throws IndexOutOfBoundsException, IllegalArgumentException",
                ChangeEdges::preferOutside);
        sentences.promise(41, "@return the one before", ChangeEdges::preferenceBefore);
        sentences.promise(43, "Each PREFERENCE becomes by greater, modulo SPOTS.", ChangeEdges::turnsRound);
        sentences.promise(43, "@param by 0 to 99.", ChangeEdges::leastAndGreatestTurn);
        sentences.promise(43, "@return TURN then.", ChangeEdges::turnThen);
        sentences.promise(43, "@throws IllegalArgumentException if by is out of range", ChangeEdges::turnOutside);
        sentences.promise(44, "@param back 0 to 5.", ChangeEdges::leastAndGreatestBack);
        sentences.promise(44, "@return the one before.", ChangeEdges::backBefore);
        sentences.promise(44, "@throws IllegalArgumentException if back is out of range", ChangeEdges::backOutside);
    }

    private static void comingAndGoing(Sentences sentences) {
        sentences.promise(45, "its NAME is the whole buffer, 1 to 8 letters a to z and nothing else", ChangeEdges::wholeBuffer);
        sentences.promise(45, "which is emptied if it comes", ChangeEdges::emptiedIfItComes);
        sentences.promise(45, "There is one spot more then.", ChangeEdges::oneSpotMore);
        sentences.promise(45, "@param preference 0 to the number of cars now and 1 more (a spot that there is then).",
                ChangeEdges::newSpot);
        sentences.promise(45, "@throws IllegalArgumentException if preference is out of range.", ChangeEdges::noNewSpot);
        sentences.promise(45, "false if there are 11 cars (refused for 1)", ChangeEdges::elevenCars);
        sentences.promise(45, "or the buffer is no NAME", ChangeEdges::noName);
        sentences.promise(45, "or that of a car (2)", ChangeEdges::nameOfCar);
        sentences.promise(46, "go(int car) throws IndexOutOfBoundsException", ChangeEdges::goOutside);
        sentences.promise(46, "those behind it have numbers that are 1 less", ChangeEdges::numbersOneLess);
        sentences.promise(46, "There is one spot fewer then.", ChangeEdges::oneSpotFewer);
        sentences.promise(46, "false (refused for 4) if another car prefers the last spot", ChangeEdges::lastSpotPreferred);
    }

    private static void orders(Sentences sentences) {
        sentences.promise(42, "swap(int car) throws IndexOutOfBoundsException", ChangeEdges::swapOutside);
        sentences.promise(42, "A car and the one that comes behind it change their places in the order.", ChangeEdges::swapPlaces);
        sentences.promise(42, "false (refused for 3) if none comes behind it", ChangeEdges::noneBehind);
        sentences.promise(47, "The cars come as their PREFERENCES rise, of like ones as they came.", ChangeEdges::likeOnesAsTheyCame);
        sentences.promise(47, "@return how many have another number then", ChangeEdges::otherNumbers);
        sentences.promise(48, "The cars come the other way round.", ChangeEdges::otherWayRound);
        sentences.promise(48, "@return LUCKY cars then", ChangeEdges::luckyThen);
    }

    private static ParkingCircle three() {
        return Circles.of(0, 3, 1, 2);
    }

    private static ParkingCircle eleven() {
        return Circles.alike(0, 11, 11);
    }

    /** A call that throws or is refused is done three times, and changes neither cars nor what can be undone. */
    private static void leaves(Check check, ParkingCircle x, Runnable call) {
        x.setBack(x.setting(2));
        String state = Circles.state(x);
        int acts = x.account(0);
        for (int times = 0; times < 3; times++) {
            try {
                call.run();
            } catch (IllegalArgumentException | IndexOutOfBoundsException due) {
                check.same("the state", Circles.state(x), state);
            }
        }
        check.same("the state", Circles.state(x), state);
        check.same("acts", x.account(0), acts);
        check.same("cars that came or went", x.account(2) + x.account(3), 0);
        check.same("what can be undone", x.undo(), 0);
        check.same("the state", Circles.state(x), state);
    }

    private static void preferOutside(Check check) {
        check.onlyIndexes("without cars", 0, -1, n -> new ParkingCircle().prefer(n, 0));
        check.onlyIndexes("a car of eleven", 0, 10, n -> eleven().prefer(n, 0));
        check.onlyArguments("a spot of one car", 0, 1, n -> Circles.of(0, 1).prefer(0, n));
        check.onlyArguments("a spot of eleven", 0, 11, n -> eleven().prefer(10, n));
        check.noIndex("the car is looked at first", () -> three().prefer(3, 4));
        check.noIndex("the car is looked at first", () -> three().prefer(-1, -1));
        ParkingCircle x = three();
        leaves(check, x, () -> x.prefer(0, 4));
        ParkingCircle y = three();
        leaves(check, y, () -> y.prefer(3, 0));
    }

    private static void preferenceBefore(Check check) {
        ParkingCircle x = three();
        check.same("the last spot", x.prefer(0, 0), 3);
        check.same("the spot 0", x.prefer(0, 3), 0);
        check.same("that which it is given", x.prefer(0, 3), 3);
        check.same("the last car", x.prefer(2, 0), 2);
        check.same("state", Circles.state(x), "a b c / 3 1 0 / 0");
        check.same("acts, also if nothing is different", x.account(0), 4);
    }

    private static void turnsRound(Check check) {
        ParkingCircle x = three();
        x.turn(1);
        check.same("the last spot becomes 0", Circles.preferences(x), "0 2 3");
        x.turn(4);
        check.same("once round", Circles.preferences(x), "0 2 3");
        x.turn(3);
        check.same("all but one", Circles.preferences(x), "3 1 2");
        ParkingCircle y = eleven();
        y.turn(12);
        check.same("once round of twelve", Circles.preferences(y), "11 11 11 11 11 11 11 11 11 11 11");
        y.turn(13);
        check.same("one more", Circles.preferences(y), "0 0 0 0 0 0 0 0 0 0 0");
    }

    private static void leastAndGreatestTurn(Check check) {
        ParkingCircle x = three();
        x.turn(0);
        check.same("0", Circles.preferences(x), "3 1 2");
        check.same("that is an act", x.account(0), 1);
        x.turn(99);
        check.same("99", Circles.preferences(x), "2 0 1");
        ParkingCircle y = eleven();
        y.turn(99);
        check.same("99 of twelve", Circles.preferences(y), "2 2 2 2 2 2 2 2 2 2 2");
        check.same("without cars", new ParkingCircle().turn(99), 0);
    }

    private static void turnThen(Check check) {
        check.same("none", Circles.rising(11).turn(0), 0);
        check.same("the GAP comes to the spot 0", Circles.rising(11).turn(1), 11);
        check.same("the GAP comes to the last spot", eleven().turn(1), 0);
        check.same("without cars", new ParkingCircle().turn(1), 0);
        check.same("one car", Circles.of(0, 0).turn(1), 1);
        ParkingCircle x = eleven();
        check.same("as setting() tells", x.turn(7), x.setting(7));
    }

    private static void turnOutside(Check check) {
        check.onlyArguments("without cars", 0, 99, n -> new ParkingCircle().turn(n));
        check.onlyArguments("three cars", 0, 99, n -> three().turn(n));
        ParkingCircle x = three();
        leaves(check, x, () -> x.turn(100));
        ParkingCircle y = three();
        leaves(check, y, () -> y.turn(-1));
    }

    private static void leastAndGreatestBack(Check check) {
        ParkingCircle x = Circles.alike(0, 11, 0);
        x.setBack(5);
        check.same("5", Circles.spots(x), "0 11 10 9 8 7 1 2 3 4 5");
        x.setBack(0);
        check.same("0", Circles.spots(x), "0 1 2 3 4 5 6 7 8 9 10");
        ParkingCircle y = Circles.of(0, 0, 0);
        y.setBack(5);
        check.same("more than there are spots", Circles.spots(y), "0 2");
    }

    private static void backBefore(Check check) {
        ParkingCircle x = new ParkingCircle();
        check.same("at first", x.setBack(5), 0);
        check.same("the greatest one", x.setBack(5), 5);
        check.same("that which it is", x.setBack(0), 5);
        check.same("the least one", x.setBack(1), 0);
        check.same("acts, also if nothing is different", x.account(0), 4);
    }

    private static void backOutside(Check check) {
        check.onlyArguments("without cars", 0, 5, n -> new ParkingCircle().setBack(n));
        check.onlyArguments("eleven cars", 0, 5, n -> eleven().setBack(n));
        ParkingCircle x = three();
        leaves(check, x, () -> x.setBack(6));
        ParkingCircle y = three();
        leaves(check, y, () -> y.setBack(-1));
    }

    private static void wholeBuffer(Check check) {
        for (String name : new String[] {"a", "z", "abcdefgh", "zzzzzzzz", "car", "repeat"}) {
            ParkingCircle x = new ParkingCircle();
            check.same("come " + name, Circles.come(x, name, 0), true);
            check.same("its NAME", Circles.name(x, 0), name);
        }
        for (String name : new String[] {"", "abcdefghi", "a ", " a", "a b", "a\n", "a1", "1", "A", "`", "{", "a;", "a\0", "\u00e4"}) {
            ParkingCircle x = new ParkingCircle();
            check.same("come with " + name, Circles.come(x, name, 0), false);
            check.same("cars", x.setting(0), 0);
        }
        ParkingCircle y = new ParkingCircle();
        y.feed(0x61616161, 0x61616161, 0x61616161, 0x61616161, 0x61616161);
        check.same("20 letters", y.come(0), false);
        y.truncate(9);
        check.same("9 letters", y.come(0), false);
        y.truncate(8);
        check.same("8 letters", y.come(0), true);
        check.same("no letter", y.come(0), false);
    }

    private static void emptiedIfItComes(Check check) {
        ParkingCircle x = new ParkingCircle();
        check.same("it comes", Circles.come(x, "abc", 1), true);
        check.noArgument("no byte is there", () -> x.truncate(1));
        check.same("its NAME is refused", Circles.come(x, "abc", 1), false);
        check.same("three bytes stay", x.truncate(3), 3);
        check.noArgument("no preference", () -> x.come(3));
        check.same("three bytes stay", x.truncate(3), 3);
        ParkingCircle y = eleven();
        check.same("it is refused for 1", Circles.come(y, "xyz", 0), false);
        check.same("three bytes stay", y.truncate(3), 3);
        check.same("a script comes without the buffer", Circles.script(new ParkingCircle(), "come a 0;"), 1);
    }

    private static void oneSpotMore(Check check) {
        ParkingCircle x = new ParkingCircle();
        check.same("it comes to the new spot", Circles.come(x, "a", 1), true);
        check.same("SPOTS", x.setting(1), 2);
        check.same("the GAP", x.setting(3), 0);
        check.same("the next one, over the last spot", Circles.come(x, "b", 1), true);
        check.same("spots", Circles.spots(x), "1 2");
        check.same("one who went over the last spot before", Circles.spots(Circles.of(0, 2, 2)), "2 0");
        ParkingCircle y = Circles.of(0, 2, 2);
        Circles.come(y, "c", 0);
        check.same("takes the new one", Circles.spots(y), "2 3 0");
        ParkingCircle z = Circles.alike(0, 10, 0);
        Circles.come(z, "k", 11);
        check.same("the twelfth spot", z.who(11), 10);
        check.same("SPOTS", z.setting(1), 12);
    }

    private static void newSpot(Check check) {
        for (int cars = 0; cars <= 10; cars++) {
            for (int preference = 0; preference <= cars + 1; preference++) {
                ParkingCircle x = Circles.alike(0, cars, 0);
                check.same("come " + preference + " to " + cars, Circles.come(x, "z", preference), true);
                check.same("its PREFERENCE", x.car(cars, 0), preference);
            }
        }
    }

    private static void noNewSpot(Check check) {
        for (int cars = 0; cars <= 11; cars++) {
            int now = cars;
            check.onlyArguments("come to " + cars, 0, cars + 1, n -> Circles.come(Circles.alike(0, now, 0), "z", n));
        }
        ParkingCircle x = three();
        Circles.feed(x, "z");
        leaves(check, x, () -> x.come(5));
        check.same("no refusal", x.refusal(), 0);
        check.same("the buffer", x.truncate(1), 1);
        ParkingCircle y = three();
        check.noArgument("ahead of a refusal for 2", () -> y.come(-1));
        check.same("no refusal", y.account(1), 0);
        ParkingCircle z = eleven();
        check.noArgument("ahead of a refusal for 1", () -> z.come(13));
        check.same("no refusal", z.account(1), 0);
    }

    private static void elevenCars(Check check) {
        ParkingCircle x = eleven();
        Circles.feed(x, "z");
        leaves(check, x, () -> x.come(12));
        check.same("refusal", x.refusal(), 1);
        check.same("refusals", x.account(1), 3);
        check.same("no NAME, too", Circles.come(x, "", 0), false);
        check.same("refusal", x.refusal(), 1);
        check.same("the NAME of a car, too", Circles.come(x, "a", 0), false);
        check.same("refusal", x.refusal(), 1);
        ParkingCircle y = Circles.alike(0, 10, 0);
        check.same("ten cars", Circles.come(y, "z", 0), true);
        check.same("eleven cars", Circles.come(y, "y", 0), false);
        y.go(10);
        check.same("ten cars again", Circles.come(y, "y", 0), true);
    }

    private static void noName(Check check) {
        ParkingCircle x = three();
        leaves(check, x, () -> x.come(0));
        check.same("an empty buffer", x.refusal(), 2);
        check.same("refusals", x.account(1), 3);
        ParkingCircle y = three();
        Circles.feed(y, "abcdefghi");
        leaves(check, y, () -> y.come(0));
        check.same("nine letters", y.refusal(), 2);
        ParkingCircle z = three();
        Circles.feed(z, " ".repeat(400));
        leaves(check, z, () -> z.come(0));
        check.same("400 spaces", z.refusal(), 2);
        check.same("they stay", z.truncate(400), 400);
    }

    private static void nameOfCar(Check check) {
        for (String name : new String[] {"a", "c"}) {
            ParkingCircle x = three();
            Circles.feed(x, name);
            leaves(check, x, () -> x.come(0));
            check.same("refusal", x.refusal(), 2);
            check.same("refusals", x.account(1), 3);
        }
        check.same("one letter more", Circles.come(three(), "aa", 0), true);
        ParkingCircle y = Circles.read("park 1;car abcdefgh 0;");
        check.same("all of eight letters", Circles.come(y, "abcdefgh", 0), false);
        check.same("one letter less", Circles.come(y, "abcdefg", 0), true);
        check.same("another last letter", Circles.come(y, "abcdefgi", 0), true);
        ParkingCircle z = three();
        z.go(0);
        check.same("the NAME of a car that went", Circles.come(z, "a", 0), true);
    }

    private static void goOutside(Check check) {
        check.onlyIndexes("without cars", 0, -1, n -> new ParkingCircle().go(n));
        check.onlyIndexes("one car", 0, 0, n -> Circles.of(0, 0).go(n));
        check.onlyIndexes("eleven cars", 0, 10, n -> eleven().go(n));
        ParkingCircle x = three();
        leaves(check, x, () -> x.go(3));
        check.same("no refusal", x.account(1), 0);
    }

    private static void numbersOneLess(Check check) {
        ParkingCircle x = Circles.alike(0, 11, 0);
        check.same("the first one", x.go(0), true);
        check.same("names", Circles.names(x), "b c d e f g h i j k");
        check.same("the last one", x.go(9), true);
        check.same("names", Circles.names(x), "b c d e f g h i j");
        check.same("one between", x.go(4), true);
        check.same("state", Circles.state(x), "b c d e g h i j / 0 0 0 0 0 0 0 0 / 0");
        check.noIndex("the last number is no more", () -> x.go(8));
        ParkingCircle y = Circles.of(0, 0);
        check.same("the only one", y.go(0), true);
        check.same("state", Circles.state(y), " /  / 0");
    }

    private static void oneSpotFewer(Check check) {
        ParkingCircle x = Circles.of(0, 1);
        check.same("it alone prefers the last spot", x.go(0), true);
        check.same("SPOTS", x.setting(1), 1);
        check.noIndex("the spot that there was", () -> x.who(1));
        ParkingCircle y = Circles.of(0, 2, 2, 0);
        check.same("spots", Circles.spots(y), "2 3 0");
        check.same("the car at 0 goes", y.go(2), true);
        check.same("over the last spot that there is now", Circles.spots(y), "2 0");
        ParkingCircle z = Circles.rising(11);
        z.go(10);
        check.same("SPOTS", z.setting(1), 11);
    }

    private static void lastSpotPreferred(Check check) {
        ParkingCircle x = Circles.of(0, 3, 1, 3);
        leaves(check, x, () -> x.go(1));
        check.same("refusal", x.refusal(), 4);
        check.same("refusals", x.account(1), 3);
        check.same("it and another one", x.go(0), false);
        check.same("it and another one", x.go(2), false);
        x.prefer(0, 2);
        check.same("another one alone", x.go(0), false);
        check.same("it alone", x.go(2), true);
        check.same("the last spot but one is the last one now", x.go(0), true);
        check.same("eleven cars", eleven().go(10), false);
        check.same("the last spot that no car prefers", Circles.alike(0, 11, 10).go(10), true);
    }

    private static void swapOutside(Check check) {
        check.onlyIndexes("without cars", 0, -1, n -> new ParkingCircle().swap(n));
        check.onlyIndexes("one car", 0, 0, n -> Circles.of(0, 1).swap(n));
        check.onlyIndexes("eleven cars", 0, 10, n -> eleven().swap(n));
        ParkingCircle x = three();
        leaves(check, x, () -> x.swap(3));
        check.same("no refusal", x.account(1), 0);
    }

    private static void swapPlaces(Check check) {
        ParkingCircle x = Circles.rising(11);
        check.same("the first one", x.swap(0), true);
        check.same("the last one but one", x.swap(9), true);
        check.same("state", Circles.state(x), "b a c d e f g h i k j / 1 0 2 3 4 5 6 7 8 10 9 / 0");
        ParkingCircle y = Circles.of(0, 1, 1);
        check.same("like ones", y.swap(0), true);
        check.same("state", Circles.state(y), "b a / 1 1 / 0");
    }

    private static void noneBehind(Check check) {
        ParkingCircle x = three();
        leaves(check, x, () -> x.swap(2));
        check.same("refusal", x.refusal(), 3);
        check.same("refusals", x.account(1), 3);
        check.same("the only one", Circles.of(0, 1).swap(0), false);
        check.same("the last one of eleven", eleven().swap(10), false);
    }

    private static void likeOnesAsTheyCame(Check check) {
        ParkingCircle x = eleven();
        x.sort();
        check.same("all are alike", Circles.names(x), "a b c d e f g h i j k");
        ParkingCircle y = Circles.of(3, 4, 0, 4, 0);
        y.sort();
        check.same("the first and the last spot", Circles.state(y), "b d a c / 0 0 4 4 / 3");
        ParkingCircle z = Circles.of(0, 11, 10, 9, 8, 7, 6, 5, 4, 3, 2, 1);
        z.sort();
        check.same("they fall", Circles.names(z), "k j i h g f e d c b a");
    }

    private static void otherNumbers(Check check) {
        check.same("without cars", new ParkingCircle().sort(), 0);
        check.same("one car", Circles.of(0, 1).sort(), 0);
        check.same("all are alike", eleven().sort(), 0);
        check.same("they rise", Circles.rising(11).sort(), 0);
        check.same("all but the middle one", Circles.of(0, 11, 10, 9, 8, 7, 6, 5, 4, 3, 2, 1).sort(), 10);
        check.same("all of eleven", Circles.of(0, 11, 0, 1, 2, 3, 4, 5, 6, 7, 8, 9).sort(), 11);
        ParkingCircle x = Circles.rising(11);
        x.sort();
        check.same("that is an act", x.account(0), 1);
        check.same("that can be undone", x.undo(), 0);
    }

    private static void otherWayRound(Check check) {
        ParkingCircle x = Circles.rising(11);
        x.reverse();
        check.same("eleven cars", Circles.state(x), "k j i h g f e d c b a / 10 9 8 7 6 5 4 3 2 1 0 / 0");
        ParkingCircle y = Circles.rising(10);
        y.reverse();
        check.same("ten cars", Circles.state(y), "j i h g f e d c b a / 9 8 7 6 5 4 3 2 1 0 / 0");
        ParkingCircle z = Circles.of(2, 1);
        z.reverse();
        check.same("one car", Circles.state(z), "a / 1 / 2");
        check.same("that is an act", z.account(0), 1);
        check.same("that can be undone", z.undo(), 0);
    }

    private static void luckyThen(Check check) {
        check.same("without cars", new ParkingCircle().reverse(), 0);
        check.same("one car", Circles.of(0, 1).reverse(), 1);
        check.same("all of eleven", Circles.rising(11).reverse(), 11);
        check.same("one of eleven", eleven().reverse(), 1);
        ParkingCircle x = Circles.of(0, 0, 0, 1);
        check.same("before", x.setting(4), 1);
        check.same("then", x.reverse(), 2);
        check.same("then again", x.reverse(), 1);
    }
}
