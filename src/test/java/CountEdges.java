/** The boundary cases of Terms 3 (counts) and of the promises 21 to 25, 33 and 34. */
final class CountEdges {
    private static final long ELEVEN_FACTORIAL = 39916800L;

    private CountEdges() {
    }

    static void all(Sentences sentences) {
        terms(sentences);
        promises(sentences);
    }

    private static void terms(Sentences sentences) {
        sentences.term(3, "how many spots there are in a row, ending with its own one and going back round the circle",
                CountEdges::runRoundTheCircle);
        sentences.term(3, "that are taken by it and by cars that come ahead of it", CountEdges::runOfThoseAhead);
        sentences.term(3, "The FIBRE is all RUNS multiplied (1 without cars)", CountEdges::fibreWithoutCars);
        sentences.term(3, "with a BACK of 0 so many rows of PREFERENCES give each car the spot that it has, as BACK is 0 or not",
                CountEdges::fibreWithBack);
        sentences.term(3, "n! divided by m! for each spot that m cars prefer", CountEdges::divided);
    }

    private static void promises(Sentences sentences) {
        sentences.promise(21, "Returns the FIBRE.", CountEdges::fibre);
        sentences.promise(22, "Returns the ARRANGEMENTS.", CountEdges::arrangements);
        sentences.promise(23, "1 without cars", CountEdges::allWithoutCars);
        sentences.promise(23, "SPOTS to the power n - 1", CountEdges::power);
        sentences.promise(23, "for so many cars and a BACK of 0", CountEdges::allWithBack);
        sentences.promise(24, "(its spot with TURN more, modulo SPOTS)", CountEdges::inversionsTurned);
        sentences.promise(24, "the car that comes first has the greater TURNED spot", CountEdges::inversions);
        sentences.promise(25, "Returns cars whose PREFERENCE is less than that of the car that comes just ahead.",
                CountEdges::descents);
        sentences.promise(33, "0.0 without cars", CountEdges::meanWithoutCars);
        sentences.promise(33, "Returns the WAY as a double, divided by the number of cars", CountEdges::mean);
        sentences.promise(34, "0.0f without cars", CountEdges::shareWithoutCars);
        sentences.promise(34, "Returns LUCKY cars as a float, divided by all cars as a float", CountEdges::share);
    }

    private static String runs(ParkingCircle x) {
        return Circles.numbers(x, 4);
    }

    private static void runRoundTheCircle(Check check) {
        check.same("one car", runs(Circles.of(0, 0)), "1");
        check.same("back over the spot 0", runs(Circles.of(0, 3, 0, 1)), "1 2 3");
        check.same("back over the spot 0, moved on", runs(Circles.of(0, 3, 3, 3)), "1 2 3");
        check.same("the GAP ends it at the spot 0", runs(Circles.of(0, 0, 1, 2)), "1 2 3");
        check.same("all spots but the GAP", runs(Circles.alike(0, 11, 11)), "1 2 3 4 5 6 7 8 9 10 11");
        check.same("back over the spot 0 with BACK", runs(Circles.of(1, 0, 0, 0)), "1 1 3");
    }

    private static void runOfThoseAhead(Check check) {
        check.same("all others come later", runs(Circles.of(0, 2, 1, 0)), "1 1 1");
        check.same("one that comes later ends it", runs(Circles.of(0, 0, 2, 1)), "1 1 2");
        check.same("one that comes later ends it round the circle", runs(Circles.of(0, 2, 0, 1, 4)), "1 1 2 1");
        check.same("it joins two rows", runs(Circles.of(0, 0, 2, 3, 1, 1)), "1 1 2 2 5");
    }

    private static void fibreWithoutCars(Check check) {
        check.same("a new object", new ParkingCircle().fibre(), 1L);
        ParkingCircle x = Circles.of(0, 1, 1);
        check.same("two cars", x.fibre(), 2L);
        x.go(0);
        check.same("one car", x.fibre(), 1L);
        x.go(0);
        check.same("none any more", x.fibre(), 1L);
    }

    private static void fibreWithBack(Check check) {
        fibreIs(check, 1L, 2, 1, 1, 1);
        fibreIs(check, 1L, 5, 0, 0, 0);
        fibreIs(check, 2L, 1, 1, 2, 1);
        fibreIs(check, 3L, 1, 0, 0, 0);
        fibreIs(check, 6L, 0, 3, 3, 3);
    }

    private static void fibreIs(Check check, long due, int back, int... preferences) {
        ParkingCircle x = Circles.of(back, preferences);
        long rows = 0L;
        for (int[] others : EveryRowTests.rows(preferences.length)) {
            if (EveryRowTests.plainSpots(others, 0).equals(Circles.spots(x))) {
                rows++;
            }
        }
        check.same("rows with a BACK of 0", rows, due);
        check.same("fibre", x.fibre(), due);
    }

    private static void divided(Check check) {
        check.same("no car prefers the one spot", new ParkingCircle().arrangements(), 1L);
        check.same("one car at each spot but the GAP", Circles.rising(4).arrangements(), 24L);
        check.same("all cars at the spot 0", Circles.alike(0, 4, 0).arrangements(), 1L);
        check.same("all cars at the last spot", Circles.alike(0, 4, 4).arrangements(), 1L);
        check.same("two at the first and two at the last spot", Circles.of(0, 4, 0, 0, 4).arrangements(), 6L);
        check.same("all cars but one", Circles.of(0, 4, 4, 0, 4).arrangements(), 4L);
    }

    private static void fibre(Check check) {
        check.same("one car", Circles.of(0, 1).fibre(), 1L);
        check.same("the greatest one", Circles.alike(0, 11, 11).fibre(), ELEVEN_FACTORIAL);
        check.same("the greatest one", Circles.rising(11).fibre(), ELEVEN_FACTORIAL);
        check.same("the least one of eleven", Circles.of(0, 10, 9, 8, 7, 6, 5, 4, 3, 2, 1, 0).fibre(), 1L);
    }

    private static void arrangements(Check check) {
        check.same("one car", Circles.of(0, 1).arrangements(), 1L);
        check.same("the greatest one", Circles.rising(11).arrangements(), ELEVEN_FACTORIAL);
        check.same("half of it", Circles.of(0, 0, 0, 2, 3, 4, 5, 6, 7, 8, 9, 11).arrangements(), ELEVEN_FACTORIAL / 2);
        check.same("the least one of eleven", Circles.alike(0, 11, 11).arrangements(), 1L);
        check.same("BACK does not matter", Circles.of(5, 4, 0, 0, 4).arrangements(), 6L);
    }

    private static void allWithoutCars(Check check) {
        check.same("a new object", new ParkingCircle().all(), 1L);
        check.same("with BACK", Circles.of(5).all(), 1L);
    }

    private static void power(Check check) {
        check.same("one car", Circles.of(0, 1).all(), 1L);
        check.same("two cars", Circles.of(0, 2, 2).all(), 3L);
        check.same("three cars", Circles.rising(3).all(), 16L);
        check.same("ten cars, no int any more", Circles.rising(10).all(), 2357947691L);
        check.same("eleven cars", Circles.rising(11).all(), 61917364224L);
    }

    private static void allWithBack(Check check) {
        for (int back = 0; back <= 5; back++) {
            check.same("BACK " + back, Circles.of(back, 1, 1, 1).all(), 16L);
        }
    }

    private static void inversionsTurned(Check check) {
        check.same("over the last spot they rise", Circles.of(0, 3, 3, 3).inversions(), 0);
        check.same("over the last spot they fall", Circles.of(0, 0, 3, 2).inversions(), 3);
        check.same("TURN 0", Circles.of(0, 2, 1, 0).inversions(), 3);
        check.same("TURN 11", Circles.alike(0, 11, 1).inversions(), 0);
        check.same("TURN 1", Circles.alike(0, 11, 11).inversions(), 0);
    }

    private static void inversions(Check check) {
        check.same("no car", new ParkingCircle().inversions(), 0);
        check.same("one car", Circles.of(0, 1).inversions(), 0);
        check.same("none of eleven", Circles.rising(11).inversions(), 0);
        check.same("all pairs of eleven", Circles.of(0, 10, 9, 8, 7, 6, 5, 4, 3, 2, 1, 0).inversions(), 55);
        check.same("the first and the last one alone", Circles.of(0, 1, 0).inversions(), 1);
    }

    private static void descents(Check check) {
        check.same("no car", new ParkingCircle().descents(), 0);
        check.same("one car", Circles.of(0, 1).descents(), 0);
        check.same("like ones", Circles.alike(0, 11, 11).descents(), 0);
        check.same("all but the first one", Circles.of(0, 11, 10, 9, 8, 7, 6, 5, 4, 3, 2, 1).descents(), 10);
        check.same("less by one", Circles.of(0, 1, 0).descents(), 1);
        check.same("the last one alone", Circles.of(0, 0, 1, 2, 3, 0).descents(), 1);
        check.same("not round the circle", Circles.of(0, 0, 1, 2, 3).descents(), 0);
    }

    private static void meanWithoutCars(Check check) {
        check.same("a new object", new ParkingCircle().meanWay(), 0.0);
        ParkingCircle x = Circles.of(0, 0);
        x.go(0);
        check.same("none any more", x.meanWay(), 0.0);
    }

    private static void mean(Check check) {
        check.same("one car", Circles.of(0, 1).meanWay(), 0.0);
        check.same("the greatest one", Circles.alike(0, 11, 11).meanWay(), 5.0);
        check.same("an AREA of 0 is no WAY of 0", Circles.of(1, 1, 1, 1).meanWay(), 2.0 / 3.0);
        check.same("no whole number", Circles.of(1, 0, 0).meanWay(), 0.5);
    }

    private static void shareWithoutCars(Check check) {
        check.same("a new object", new ParkingCircle().luckyShare(), 0.0f);
        ParkingCircle x = Circles.of(0, 0);
        x.go(0);
        check.same("none any more", x.luckyShare(), 0.0f);
    }

    private static void share(Check check) {
        check.same("one car", Circles.of(0, 1).luckyShare(), 1.0f);
        check.same("all of eleven", Circles.rising(11).luckyShare(), 1.0f);
        check.same("one of eleven", Circles.alike(0, 11, 11).luckyShare(), 1.0f / 11.0f);
        check.same("two of three", Circles.of(0, 0, 0, 2).luckyShare(), 2.0f / 3.0f);
    }
}
