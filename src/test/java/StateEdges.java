/** The boundary cases of the promises 8 to 20: what there is, and once some cars have come. */
final class StateEdges {
    private static final int[] NO_INDEX = {Integer.MIN_VALUE, -100, -2, -1, 11, 12, 100, Integer.MAX_VALUE};

    private StateEdges() {
    }

    static void all(Sentences sentences) {
        cars(sentences);
        places(sentences);
        onceSomeHaveCome(sentences);
    }

    private static void cars(Sentences sentences) {
        sentences.promise(8, "for any other what", StateEdges::otherSetting);
        sentences.promise(8, "0 cars, 1 SPOTS, 2 BACK, 3 the GAP, 4 LUCKY cars, 5 the AREA, 6 the WAY, 7 TURN, 8 BREAKS, 9 spots"
                + " that at least one car prefers", StateEdges::settings);
        sentences.promise(9, "letter(int car, int i) throws IndexOutOfBoundsException", StateEdges::letterOutside);
        sentences.promise(9, "1 for a to 26 for z", StateEdges::firstAndLastLetter);
        sentences.promise(9, "0 if it has none such (i: any int)", StateEdges::noLetter);
        sentences.promise(10, "car(int car, int what) throws IndexOutOfBoundsException", StateEdges::carOutside);
        sentences.promise(10, "for any other what", StateEdges::otherWhat);
        sentences.promise(10, "0 PREFERENCE, 1 its spot, 2 MOVED, 3 whether it is LUCKY (1, 0), 4 RUN, 5 its TURNED PREFERENCE",
                StateEdges::carNumbers);
    }

    private static void places(Sentences sentences) {
        sentences.promise(11, "who(int spot) throws IndexOutOfBoundsException", StateEdges::whoOutside);
        sentences.promise(11, "NONE for the GAP", StateEdges::whoOfGap);
        sentences.promise(12, "wanted(int spot) throws IndexOutOfBoundsException", StateEdges::wantedOutside);
        sentences.promise(12, "Returns how many cars prefer a spot.", StateEdges::wanted);
        sentences.promise(13, "as they rise, of like ones as they come", StateEdges::likeOnes);
        sentences.promise(13, "NONE if there is none (k: any int)", StateEdges::noRank);
        sentences.promise(14, "spotByLine(int car) throws IndexOutOfBoundsException", StateEdges::byLineOutside);
        sentences.promise(14, "Returns the spot of a car, found the second way.", StateEdges::byLine);
        sentences.promise(15, "cars with other spots, and 1 more if the AREA is another one (0)", StateEdges::gap);
        sentences.promise(16, "Returns whether the last spot is the GAP.", StateEdges::isParking);
        sentences.promise(17, "Returns the k-th BREAK, from 0, as they rise", StateEdges::firstAndLastBreak);
        sentences.promise(17, "NONE if there is none (k: any int)", StateEdges::noBreak);
    }

    private static void onceSomeHaveCome(Sentences sentences) {
        sentences.promise(18, "whoAfter(int cars, int spot) throws IndexOutOfBoundsException, IllegalArgumentException",
                StateEdges::whoAfterOutside);
        sentences.promise(18, "NONE if it is free", StateEdges::stillFree);
        sentences.promise(18, "0 to the number of cars", StateEdges::noneAndAllHaveCome);
        sentences.promise(18, "@throws IllegalArgumentException if cars is out of range.", StateEdges::whoAfterTooMany);
        sentences.promise(19, "round the circle", StateEdges::longestRoundTheCircle);
        sentences.promise(19, "once so many cars have come", StateEdges::longestOfSome);
        sentences.promise(19, "@throws IllegalArgumentException if cars is out of range.", StateEdges::longestAfterTooMany);
        sentences.promise(20, "if it would not be LUCKY as BACK is: the car whose spot it prefers", StateEdges::inWay);
        sentences.promise(20, "NONE if there is no such car, or it is LUCKY", StateEdges::noneInWay);
        sentences.promise(20, "@throws IllegalArgumentException if cars is out of range.", StateEdges::inWayTooMany);
    }

    /** The spots 0 to 4 are taken by c, none, a, b and d. */
    private static ParkingCircle four() {
        return Circles.of(0, 2, 2, 0, 2);
    }

    private static ParkingCircle eleven() {
        return Circles.alike(0, 11, 11);
    }

    private static void otherSetting(Check check) {
        check.onlyArguments("setting() without cars", 0, 9, n -> new ParkingCircle().setting(n));
        check.onlyArguments("setting() of four", 0, 9, n -> four().setting(n));
        check.onlyArguments("setting() of eleven", 0, 9, n -> eleven().setting(n));
    }

    private static void settings(Check check) {
        check.same("no car", Circles.settings(new ParkingCircle()), "0 1 0 0 0 0 0 0 0 0");
        check.same("no car, the greatest BACK", Circles.settings(Circles.of(5)), "0 1 5 0 0 0 0 0 0 0");
        check.same("one car at 0", Circles.settings(Circles.of(0, 0)), "1 2 0 1 1 0 0 0 1 1");
        check.same("one car at 1", Circles.settings(Circles.of(0, 1)), "1 2 0 0 1 0 0 1 1 1");
        check.same("fewer BREAKS than spots", Circles.settings(Circles.of(0, 0, 0, 1)), "3 4 0 3 1 2 2 0 1 2");
        check.same("eleven at the last spot", Circles.settings(eleven()), "11 12 0 10 1 55 55 1 1 1");
        check.same("eleven that are LUCKY", Circles.settings(Circles.rising(11)), "11 12 0 11 11 0 0 0 11 11");
    }

    private static void letterOutside(Check check) {
        check.onlyIndexes("without cars", 0, -1, n -> new ParkingCircle().letter(n, 0));
        check.onlyIndexes("one car", 0, 0, n -> Circles.of(0, 1).letter(n, 0));
        check.onlyIndexes("eleven cars", 0, 10, n -> eleven().letter(n, 0));
        check.onlyIndexes("with an i that is none", 0, 3, n -> four().letter(n, -1));
    }

    private static void firstAndLastLetter(Check check) {
        ParkingCircle x = Circles.read("park 2;car azazazaz 0;car z 1;");
        for (int i = 0; i < 8; i++) {
            check.same("letter " + i, x.letter(0, i), i % 2 == 0 ? 1 : 26);
        }
        check.same("the only one", x.letter(1, 0), 26);
    }

    private static void noLetter(Check check) {
        ParkingCircle x = Circles.read("park 2;car a 0;car abcdefgh 1;");
        for (int i : new int[] {Integer.MIN_VALUE, -64, -8, -2, -1, 8, 9, 64, 1000, Integer.MAX_VALUE}) {
            check.same("letter " + i + " of one", x.letter(0, i), 0);
            check.same("letter " + i + " of eight", x.letter(1, i), 0);
        }
        check.same("behind the only one", x.letter(0, 1), 0);
        check.same("the eighth one", x.letter(1, 7), 8);
    }

    private static void carOutside(Check check) {
        for (int what = 0; what <= 5; what++) {
            int one = what;
            check.onlyIndexes("without cars", 0, -1, n -> new ParkingCircle().car(n, one));
            check.onlyIndexes("four cars", 0, 3, n -> four().car(n, one));
            check.onlyIndexes("eleven cars", 0, 10, n -> eleven().car(n, one));
        }
        check.noIndex("the car is looked at first", () -> four().car(4, 6));
        check.noIndex("without cars, too", () -> new ParkingCircle().car(0, -1));
    }

    private static void otherWhat(Check check) {
        check.onlyArguments("the first car", 0, 5, n -> four().car(0, n));
        check.onlyArguments("the last car", 0, 5, n -> four().car(3, n));
    }

    private static void carNumbers(Check check) {
        ParkingCircle x = eleven();
        int[] first = {11, 11, 0, 1, 1, 0};
        int[] last = {11, 9, 10, 0, 11, 0};
        int[] back = {0, 2, -1, 0, 1, 1};
        for (int what = 0; what <= 5; what++) {
            check.same("the first one, what " + what, x.car(0, what), first[what]);
            check.same("the last one, what " + what, x.car(10, what), last[what]);
            check.same("one that goes back, what " + what, Circles.of(1, 0, 0).car(1, what), back[what]);
        }
    }

    private static void whoOutside(Check check) {
        check.onlyIndexes("without cars", 0, 0, n -> new ParkingCircle().who(n));
        check.onlyIndexes("one car", 0, 1, n -> Circles.of(0, 1).who(n));
        check.onlyIndexes("eleven cars", 0, 11, n -> eleven().who(n));
    }

    private static void whoOfGap(Check check) {
        check.same("without cars", new ParkingCircle().who(0), -1);
        check.same("the first spot", Circles.alike(0, 11, 1).who(0), -1);
        check.same("the last spot", Circles.rising(11).who(11), -1);
        check.same("one between", four().who(1), -1);
        check.same("beside it", four().who(0) + " " + four().who(2), "2 0");
    }

    private static void wantedOutside(Check check) {
        check.onlyIndexes("without cars", 0, 0, n -> new ParkingCircle().wanted(n));
        check.onlyIndexes("one car", 0, 1, n -> Circles.of(0, 1).wanted(n));
        check.onlyIndexes("eleven cars", 0, 11, n -> eleven().wanted(n));
    }

    private static void wanted(Check check) {
        check.same("without cars", new ParkingCircle().wanted(0), 0);
        check.same("none", eleven().wanted(0), 0);
        check.same("all of eleven, the last spot", eleven().wanted(11), 11);
        check.same("all of eleven, the first spot", Circles.alike(0, 11, 0).wanted(0), 11);
        check.same("the GAP, which none prefers", Circles.of(1, 2, 2, 2, 1).wanted(4), 0);
    }

    private static void likeOnes(Check check) {
        for (int k = 0; k < 11; k++) {
            check.same("all are alike", eleven().ranked(k), k);
            check.same("they rise", Circles.rising(11).ranked(k), k);
            check.same("they fall", Circles.of(0, 11, 10, 9, 8, 7, 6, 5, 4, 3, 2, 1).ranked(k), 10 - k);
        }
        ParkingCircle x = four();
        check.same("some are", x.ranked(0) + " " + x.ranked(1) + " " + x.ranked(2) + " " + x.ranked(3), "2 0 1 3");
    }

    private static void noRank(Check check) {
        for (int k : NO_INDEX) {
            check.same("of eleven, k " + k, eleven().ranked(k), -1);
            check.same("of one, k " + k, Circles.of(0, 1).ranked(k), -1);
            check.same("without cars, k " + k, new ParkingCircle().ranked(k), -1);
        }
        check.same("without cars", new ParkingCircle().ranked(0), -1);
        check.same("behind the last one", Circles.of(0, 1).ranked(1), -1);
        check.same("behind the last one of four", four().ranked(4), -1);
    }

    private static void byLineOutside(Check check) {
        check.onlyIndexes("without cars", 0, -1, n -> new ParkingCircle().spotByLine(n));
        check.onlyIndexes("one car", 0, 0, n -> Circles.of(0, 1).spotByLine(n));
        check.onlyIndexes("eleven cars", 0, 10, n -> eleven().spotByLine(n));
    }

    private static void byLine(Check check) {
        check.same("the line is turned over the last spot", Circles.spotsByLine(eleven()), "11 0 1 2 3 4 5 6 7 8 9");
        check.same("back over the spot 0", Circles.spotsByLine(Circles.alike(5, 11, 0)), "0 11 10 9 8 7 1 2 3 4 5");
        check.same("two spots", Circles.spotsByLine(Circles.of(5, 1)), "1");
    }

    private static void gap(Check check) {
        check.same("without cars", new ParkingCircle().gap(), 0);
        check.same("one car", Circles.of(0, 1).gap(), 0);
        for (int preference = 0; preference <= 11; preference++) {
            for (int back = 0; back <= 5; back++) {
                check.same("eleven cars", Circles.alike(back, 11, preference).gap(), 0);
            }
        }
    }

    private static void isParking(Check check) {
        check.same("without cars the only spot", new ParkingCircle().isParking(), true);
        check.same("one car at 0", Circles.of(0, 0).isParking(), true);
        check.same("one car at 1", Circles.of(0, 1).isParking(), false);
        check.same("the last one of twelve", Circles.rising(11).isParking(), true);
        check.same("the last one but one", eleven().isParking(), false);
        check.same("the first one", Circles.alike(0, 11, 1).isParking(), false);
    }

    private static void firstAndLastBreak(Check check) {
        check.same("the only one", eleven().breakAt(0), 11);
        check.same("one car", Circles.of(0, 1).breakAt(0), 1);
        for (int k = 0; k < 11; k++) {
            check.same("each number is one", Circles.rising(11).breakAt(k), k + 1);
        }
    }

    private static void noBreak(Check check) {
        for (int k : NO_INDEX) {
            check.same("of eleven, k " + k, Circles.rising(11).breakAt(k), -1);
            check.same("without cars, k " + k, new ParkingCircle().breakAt(k), -1);
        }
        check.same("without cars", new ParkingCircle().breakAt(0), -1);
        check.same("behind the only one", eleven().breakAt(1), -1);
        check.same("behind the second one", four().breakAt(2), -1);
    }

    private static void whoAfterOutside(Check check) {
        check.onlyIndexes("without cars", 0, 0, n -> new ParkingCircle().whoAfter(0, n));
        check.onlyIndexes("before any car", 0, 4, n -> four().whoAfter(0, n));
        check.onlyIndexes("behind all cars", 0, 11, n -> eleven().whoAfter(11, n));
        check.noIndex("the spot is looked at first", () -> four().whoAfter(5, 5));
        check.noIndex("the spot is looked at first", () -> four().whoAfter(-1, -1));
    }

    private static void stillFree(Check check) {
        check.same("without cars", new ParkingCircle().whoAfter(0, 0), -1);
        check.same("just before it is taken", four().whoAfter(3, 4), -1);
        check.same("once it is taken", four().whoAfter(4, 4), 3);
        check.same("the GAP", four().whoAfter(4, 1), -1);
    }

    private static void noneAndAllHaveCome(Check check) {
        for (int spot = 0; spot < 12; spot++) {
            check.same("none has come", eleven().whoAfter(0, spot), -1);
            check.same("one has come", eleven().whoAfter(1, spot), spot == 11 ? 0 : -1);
            check.same("all have come", eleven().whoAfter(11, spot), spot == 11 ? 0 : spot == 10 ? -1 : spot + 1);
            check.same("as who() then", eleven().whoAfter(11, spot), eleven().who(spot));
        }
    }

    private static void whoAfterTooMany(Check check) {
        check.onlyArguments("without cars", 0, 0, n -> new ParkingCircle().whoAfter(n, 0));
        check.onlyArguments("four cars", 0, 4, n -> four().whoAfter(n, 4));
        check.onlyArguments("eleven cars", 0, 11, n -> eleven().whoAfter(n, 0));
    }

    private static void longestRoundTheCircle(Check check) {
        check.same("over the last spot", Circles.of(0, 5, 0, 2, 3, 4).longestAfter(2), 2);
        check.same("at the spot 0", Circles.of(0, 0, 1, 2).longestAfter(3), 3);
        check.same("over the last spot of five", Circles.of(0, 4, 0, 1, 2).longestAfter(3), 3);
        check.same("all but the GAP", eleven().longestAfter(11), 11);
        check.same("all but the GAP at 0", Circles.alike(0, 11, 1).longestAfter(11), 11);
    }

    private static void longestOfSome(Check check) {
        check.same("without cars", new ParkingCircle().longestAfter(0), 0);
        for (int coming = 0; coming <= 11; coming++) {
            check.same("eleven cars", eleven().longestAfter(coming), coming);
            check.same("each one apart at first", Circles.of(0, 0, 2, 4, 6, 8, 10, 1, 3, 5, 7, 9).longestAfter(coming),
                    coming == 0 ? 0 : coming <= 6 ? 1 : 2 * (coming - 6) + 1);
        }
    }

    private static void longestAfterTooMany(Check check) {
        check.onlyArguments("without cars", 0, 0, n -> new ParkingCircle().longestAfter(n));
        check.onlyArguments("four cars", 0, 4, n -> four().longestAfter(n));
        check.onlyArguments("eleven cars", 0, 11, n -> eleven().longestAfter(n));
    }

    private static void inWay(Check check) {
        check.same("the one that took it", four().inWay(1), 0);
        check.same("the last one of eleven", eleven().inWay(10), 0);
        check.same("one that was moved on over the last spot", Circles.of(0, 3, 3, 0).inWay(2), 1);
        check.same("with BACK it was not moved there", Circles.of(1, 3, 3, 0).inWay(2), -1);
        check.same("one that went back over the spot 0", Circles.of(1, 0, 0, 3).inWay(2), 1);
    }

    private static void noneInWay(Check check) {
        check.same("no car at all", new ParkingCircle().inWay(0), -1);
        check.same("no car behind the last one", four().inWay(4), -1);
        check.same("no car behind eleven", eleven().inWay(11), -1);
        check.same("the first one is LUCKY", eleven().inWay(0), -1);
        check.same("the third one is LUCKY", four().inWay(2), -1);
        check.same("the last one of eleven is LUCKY", Circles.rising(11).inWay(10), -1);
    }

    private static void inWayTooMany(Check check) {
        check.onlyArguments("without cars", 0, 0, n -> new ParkingCircle().inWay(n));
        check.onlyArguments("four cars", 0, 4, n -> four().inWay(n));
        check.onlyArguments("eleven cars", 0, 11, n -> eleven().inWay(n));
    }
}
