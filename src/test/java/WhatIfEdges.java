/** The boundary cases of the promises 35 to 40: what would be. */
final class WhatIfEdges {
    private WhatIfEdges() {
    }

    static void all(Sentences sentences) {
        otherPreference(sentences);
        otherOrderOrBack(sentences);
    }

    private static void otherPreference(Sentences sentences) {
        sentences.promise(35, "spotIf(int car, int preference) throws IndexOutOfBoundsException, IllegalArgumentException",
                WhatIfEdges::spotIfOutside);
        sentences.promise(35, "Returns the spot that a car would take with another PREFERENCE.", WhatIfEdges::spotIf);
        sentences.promise(36, "settingIf(int car, int preference, int what) throws IndexOutOfBoundsException,"
                + " IllegalArgumentException", WhatIfEdges::settingIfOutside);
        sentences.promise(36, "@throws IllegalArgumentException for any other what.", WhatIfEdges::otherWhat);
        sentences.promise(36, "Returns what setting() would tell, if a car had another PREFERENCE.", WhatIfEdges::settingIf);
        sentences.promise(37, "bestFor(int car) throws IndexOutOfBoundsException", WhatIfEdges::bestForOutside);
        sentences.promise(37, "the least one of several", WhatIfEdges::leastPreference);
    }

    private static void otherOrderOrBack(Sentences sentences) {
        sentences.promise(38, "latest(int car) throws IndexOutOfBoundsException", WhatIfEdges::latestOutside);
        sentences.promise(38, "Returns the last place in the order, from 0, at which a car would be LUCKY, if it came there and"
                + " the others as they do now", WhatIfEdges::firstAndLastPlace);
        sentences.promise(38, "NONE if at none", WhatIfEdges::neverAtNone);
        sentences.promise(39, "@throws IllegalArgumentException if back is out of range.", WhatIfEdges::wayByOutside);
        sentences.promise(39, "@param back 0 to 5.", WhatIfEdges::leastAndGreatestBack);
        sentences.promise(40, "Returns the BACK with the least WAY", WhatIfEdges::bestBack);
        sentences.promise(40, "the least one of several", WhatIfEdges::leastBack);
        sentences.term(7, "the interface says: ---- what would be; nothing changes.", WhatIfEdges::nothingChanges);
    }

    /** Made by changes, so that what was read is not what there is. */
    private static ParkingCircle four() {
        ParkingCircle x = Circles.of(3, 0, 1, 1, 1);
        x.setBack(0);
        x.prefer(0, 1);
        x.prefer(2, 4);
        x.turn(1);
        return x;
    }

    /** Made by a change, too. */
    private static ParkingCircle eleven() {
        ParkingCircle x = Circles.alike(0, 11, 0);
        x.turn(11);
        return x;
    }

    private static void spotIfOutside(Check check) {
        check.onlyIndexes("without cars", 0, -1, n -> new ParkingCircle().spotIf(n, 0));
        check.onlyIndexes("a car of eleven", 0, 10, n -> eleven().spotIf(n, 0));
        check.onlyArguments("a spot of one car", 0, 1, n -> Circles.of(0, 1).spotIf(0, n));
        check.onlyArguments("a spot of eleven", 0, 11, n -> eleven().spotIf(10, n));
        check.noIndex("the car is looked at first", () -> four().spotIf(4, 5));
        check.noIndex("the car is looked at first", () -> four().spotIf(-1, -1));
    }

    private static void spotIf(Check check) {
        check.same("the PREFERENCE that it has", eleven().spotIf(10, 11), 9);
        check.same("the GAP", eleven().spotIf(10, 10), 10);
        check.same("the last spot", four().spotIf(3, 4), 4);
        check.same("on over the last spot", Circles.of(0, 3, 0, 1).spotIf(2, 3), 1);
        check.same("back over the spot 0", Circles.of(1, 0, 2, 2).spotIf(2, 0), 3);
        check.same("the first car has all spots free", eleven().spotIf(0, 0), 0);
        check.same("one car", Circles.of(0, 1).spotIf(0, 0), 0);
    }

    private static void settingIfOutside(Check check) {
        check.onlyIndexes("without cars", 0, -1, n -> new ParkingCircle().settingIf(n, 0, 0));
        check.onlyIndexes("a car of eleven", 0, 10, n -> eleven().settingIf(n, 0, 0));
        check.onlyArguments("a spot of one car", 0, 1, n -> Circles.of(0, 1).settingIf(0, n, 0));
        check.onlyArguments("a spot of eleven", 0, 11, n -> eleven().settingIf(10, n, 0));
        check.noIndex("the car is looked at first", () -> four().settingIf(4, 5, 10));
        check.noIndex("the car is looked at first", () -> four().settingIf(-1, 0, -1));
    }

    private static void otherWhat(Check check) {
        check.onlyArguments("another PREFERENCE", 0, 9, n -> four().settingIf(0, 4, n));
        check.onlyArguments("that which it has", 0, 9, n -> four().settingIf(0, 2, n));
    }

    private static void settingIf(Check check) {
        for (int what = 0; what <= 9; what++) {
            check.same("the PREFERENCE that it has", four().settingIf(3, 2, what), four().setting(what));
            check.same("four", four().setting(what), Circles.of(0, 2, 2, 0, 2).setting(what));
            check.same("the last spot", four().settingIf(3, 4, what), Circles.of(0, 2, 2, 0, 4).setting(what));
            check.same("the spot 0 of twelve", eleven().settingIf(0, 0, what),
                    Circles.of(0, 0, 11, 11, 11, 11, 11, 11, 11, 11, 11, 11).setting(what));
            check.same("one car", Circles.of(0, 1).settingIf(0, 0, what), Circles.of(0, 0).setting(what));
        }
    }

    private static void bestForOutside(Check check) {
        check.onlyIndexes("without cars", 0, -1, n -> new ParkingCircle().bestFor(n));
        check.onlyIndexes("one car", 0, 0, n -> Circles.of(0, 1).bestFor(n));
        check.onlyIndexes("eleven cars", 0, 10, n -> eleven().bestFor(n));
    }

    private static void leastPreference(Check check) {
        check.same("both of one car", Circles.of(0, 1).bestFor(0), 0);
        check.same("1 or 2", Circles.of(0, 0, 0).bestFor(1), 1);
        check.same("the last spot or that ahead", Circles.of(0, 0, 1, 2, 0).bestFor(3), 3);
        check.same("all but the last one", eleven().bestFor(0), 0);
        check.same("the two that are free", eleven().bestFor(10), 9);
        check.same("the one that it has is no better", Circles.of(0, 0, 1, 3).bestFor(2), 2);
    }

    private static void latestOutside(Check check) {
        check.onlyIndexes("without cars", 0, -1, n -> new ParkingCircle().latest(n));
        check.onlyIndexes("one car", 0, 0, n -> Circles.of(0, 1).latest(n));
        check.onlyIndexes("eleven cars", 0, 10, n -> eleven().latest(n));
    }

    private static void firstAndLastPlace(Check check) {
        check.same("the only place", Circles.of(0, 1).latest(0), 0);
        for (int car = 0; car < 11; car++) {
            check.same("the last place of eleven", Circles.rising(11).latest(car), 10);
            check.same("the place 0 of eleven", eleven().latest(car), 0);
        }
        check.same("ahead of one that goes on", Circles.of(0, 1, 0, 0).latest(0), 1);
        check.same("ahead of one that comes over the last spot", Circles.of(0, 0, 3, 3).latest(0), 1);
        check.same("ahead of one that goes back over the spot 0", Circles.of(1, 0, 0, 3).latest(2), 1);
    }

    /** At the place 0 all spots are free, so that a car is always LUCKY there. */
    private static void neverAtNone(Check check) {
        for (int[] preferences : EveryRowTests.rows(3)) {
            for (int back = 0; back <= 5; back++) {
                ParkingCircle x = Circles.of(back, preferences);
                for (int car = 0; car < 3; car++) {
                    check.same("latest", x.latest(car) >= 0, true);
                }
            }
        }
    }

    private static void wayByOutside(Check check) {
        check.onlyArguments("without cars", 0, 5, n -> new ParkingCircle().wayBy(n));
        check.onlyArguments("eleven cars", 0, 5, n -> eleven().wayBy(n));
    }

    private static void leastAndGreatestBack(Check check) {
        check.same("0", Circles.alike(5, 11, 0).wayBy(0), 55);
        check.same("5", Circles.alike(0, 11, 0).wayBy(5), 30);
        check.same("0, as it is", Circles.alike(0, 11, 0).wayBy(0), 55);
        check.same("5, as it is", Circles.alike(5, 11, 0).wayBy(5), 30);
        check.same("without cars", new ParkingCircle().wayBy(5), 0);
        check.same("all are LUCKY", Circles.rising(11).wayBy(5), 0);
    }

    private static void bestBack(Check check) {
        check.same("the greatest one", Circles.of(0, 5, 7, 4, 5, 6, 5, 1, 7, 10, 5, 8).bestBack(), 5);
        check.same("the least one", Circles.of(5, 0, 0).bestBack(), 0);
        check.same("not the one that it is", four().bestBack(), 1);
    }

    private static void leastBack(Check check) {
        check.same("all of them, without cars", Circles.of(5).bestBack(), 0);
        check.same("all of them", Circles.alike(3, 2, 2).bestBack(), 0);
        check.same("1 and 2", Circles.of(2, 2, 2, 0, 2).bestBack(), 1);
    }

    private static void nothingChanges(Check check) {
        ParkingCircle x = Circles.of(2, 2, 2, 0, 2);
        x.turn(1);
        x.swap(3);
        x.report();
        Circles.feed(x, "abc");
        x.spotIf(0, 4);
        check.noArgument("spotIf", () -> x.spotIf(0, 5));
        x.settingIf(1, 4, 3);
        check.noArgument("settingIf", () -> x.settingIf(1, 4, 10));
        x.bestFor(2);
        x.latest(0);
        check.noIndex("latest", () -> x.latest(4));
        x.wayBy(5);
        check.noArgument("wayBy", () -> x.wayBy(6));
        x.bestBack();
        check.same("state", Circles.state(x), "a b c d / 3 3 1 3 / 2");
        check.same("accounts", Circles.accounts(x), "1 1 0 0 0");
        check.same("refusal", x.refusal(), 3);
        check.same("error", Circles.error(x), "0 at -1");
        check.same("the buffer", x.truncate(3), 3);
        check.noArgument("the buffer", () -> x.truncate(4));
        check.same("what can be undone", x.undo(), 0);
        check.noState("what is saved", () -> x.restore());
    }
}
