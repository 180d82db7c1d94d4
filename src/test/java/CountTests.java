/** Promises 21 to 25, 33 and 34: counts, means and shares. */
final class CountTests {
    private CountTests() {
    }

    static void all(Check check) {
        check.test("promise 21: fibre", CountTests::fibre);
        check.test("promise 21: fibre is how many rows of PREFERENCES lead to the same spots", CountTests::fibreCounted);
        check.test("promise 22: arrangements", CountTests::arrangements);
        check.test("promise 23: all", CountTests::all23);
        check.test("promise 23: all, counted", CountTests::allCounted);
        check.test("promise 24: inversions", CountTests::inversions);
        check.test("promise 25: descents", CountTests::descents);
        check.test("promise 33: meanWay", CountTests::meanWay);
        check.test("promise 34: luckyShare", CountTests::luckyShare);
    }

    private static void fibre(Check check) {
        check.same("none", new ParkingCircle().fibre(), 1L);
        check.same("one", Circles.of(0, 1).fibre(), 1L);
        check.same("four", Circles.of(0, 2, 2, 0, 2).fibre(), 6L);
        check.same("with BACK", Circles.of(2, 1, 1, 1).fibre(), 1L);
        check.same("with BACK", Circles.of(1, 1, 2, 1, 1).fibre(), 8L);
        check.same("eleven", Circles.alike(0, 11, 11).fibre(), 39916800L);
    }

    private static void fibreCounted(Check check) {
        for (int[] preferences : EveryRowTests.rows(4)) {
            if (preferences[0] == preferences[3] || preferences[1] == preferences[2]) {
                continue;
            }
            ParkingCircle x = Circles.of(0, preferences);
            String spots = Circles.spots(x);
            int same = 0;
            for (int[] others : EveryRowTests.rows(4)) {
                if (spots.equals(EveryRowTests.plainSpots(others, 0))) {
                    same++;
                }
            }
            check.same("fibre", x.fibre(), same);
        }
    }

    private static void arrangements(Check check) {
        check.same("none", new ParkingCircle().arrangements(), 1L);
        check.same("one", Circles.of(0, 0).arrangements(), 1L);
        check.same("four", Circles.of(0, 2, 2, 0, 2).arrangements(), 4L);
        check.same("two pairs", Circles.of(2, 3, 1, 3, 1).arrangements(), 6L);
        check.same("the last spot, too", Circles.of(0, 4, 4, 4, 0).arrangements(), 4L);
        check.same("eleven alike", Circles.alike(0, 11, 11).arrangements(), 1L);
        check.same("eleven", Circles.of(0, 0, 1, 2, 3, 4, 5, 6, 7, 8, 9, 10).arrangements(), 39916800L);
        check.same("eleven, ten spots", Circles.of(0, 0, 0, 2, 3, 4, 5, 6, 7, 8, 9, 11).arrangements(), 19958400L);
    }

    private static void all23(Check check) {
        long[] due = {1L, 1L, 3L, 16L, 125L, 1296L, 16807L, 262144L, 4782969L, 100000000L, 2357947691L, 61917364224L};
        for (int cars = 0; cars < due.length; cars++) {
            check.same("all of " + cars, Circles.alike(0, cars, 0).all(), due[cars]);
        }
        check.same("with BACK", Circles.of(3, 0, 0, 0).all(), 16L);
    }

    private static void allCounted(Check check) {
        for (int cars = 1; cars < 5; cars++) {
            long parking = 0;
            for (int[] preferences : EveryRowTests.rows(cars)) {
                if (Circles.of(0, preferences).isParking()) {
                    parking++;
                }
            }
            check.same("all of " + cars, Circles.alike(0, cars, 0).all(), parking);
        }
    }

    private static void inversions(Check check) {
        check.same("none", new ParkingCircle().inversions(), 0);
        check.same("four", Circles.of(0, 2, 2, 0, 2).inversions(), 1);
        check.same("backwards", Circles.of(0, 3, 2, 1, 0).inversions(), 6);
        check.same("turned", Circles.of(0, 0, 4, 3, 2).inversions(), 6);
        check.same("turned", Circles.of(0, 4, 4, 4, 4).inversions(), 0);
        check.same("back round the circle", Circles.of(3, 0, 0, 0, 0).inversions(), 6);
        check.same("eleven", Circles.of(0, 10, 9, 8, 7, 6, 5, 4, 3, 2, 1, 0).inversions(), 55);
    }

    private static void descents(Check check) {
        check.same("none", new ParkingCircle().descents(), 0);
        check.same("one", Circles.of(0, 1).descents(), 0);
        check.same("four", Circles.of(0, 2, 2, 0, 2).descents(), 1);
        check.same("like ones", Circles.of(0, 3, 3, 3, 3).descents(), 0);
        check.same("backwards", Circles.of(0, 4, 3, 2, 1).descents(), 3);
        check.same("not as they are turned", Circles.of(0, 3, 0, 1).descents(), 1);
    }

    private static void meanWay(Check check) {
        check.same("none", new ParkingCircle().meanWay(), 0.0);
        check.same("four", Circles.of(0, 2, 2, 0, 2).meanWay(), 0.75);
        check.same("back counts as much as on", Circles.of(1, 1, 1, 1).meanWay(), 2.0 / 3.0);
        check.same("back", Circles.of(2, 1, 1, 1).meanWay(), 1.0);
        check.same("eleven", Circles.alike(0, 11, 11).meanWay(), 5.0);
        check.same("a double", Circles.of(0, 0, 0, 2).meanWay(), 1.0 / 3.0);
        check.same("all lucky", Circles.of(0, 0, 1).meanWay(), 0.0);
    }

    private static void luckyShare(Check check) {
        check.same("none", new ParkingCircle().luckyShare(), 0.0f);
        check.same("four", Circles.of(0, 2, 2, 0, 2).luckyShare(), 0.5f);
        check.same("a third", Circles.of(2, 1, 1, 1).luckyShare(), 1.0f / 3.0f);
        check.same("two thirds", Circles.of(0, 0, 0, 2).luckyShare(), 2.0f / 3.0f);
        check.same("all", Circles.of(0, 0, 1).luckyShare(), 1.0f);
        check.same("eleven", Circles.alike(0, 11, 3).luckyShare(), 1.0f / 11.0f);
    }
}
