/** The boundary cases of the introduction, of Terms 1 (cars and spots) and of Terms 2 (rotations and the line). */
final class CircleEdges {
    private CircleEdges() {
    }

    static void all(Sentences sentences) {
        sentences.introduction("An object is used for at most 512 calls after it has been made", CircleEdges::lastCall);
        carsAndSpots(sentences);
        rotationsAndLine(sentences);
    }

    private static void carsAndSpots(Sentences sentences) {
        sentences.term(1, "There are at most 11 cars, numbered from 0 in the order in which they come.",
                CircleEdges::mostCars);
        sentences.term(1, "There are SPOTS spots, one more than cars, numbered from 0", CircleEdges::spots);
        sentences.term(1, "behind the last one comes the spot 0, ahead of that the last one", CircleEdges::roundTheCircle);
        sentences.term(1, "A PREFERENCE is one of them.", CircleEdges::preferenceIsSpot);
        sentences.term(1, "BACK is 0 to 5 (0 at first).", CircleEdges::back);
        sentences.term(1, "each takes a spot: its PREFERENCE if that is free", CircleEdges::takesPreference);
        sentences.term(1, "otherwise the first free one of the BACK spots ahead of its PREFERENCE", CircleEdges::looksBack);
        sentences.term(1, "(the nearest one is looked at first)", CircleEdges::nearestFirst);
        sentences.term(1, "if none of these is free, the first free one behind its PREFERENCE", CircleEdges::goesOn);
        sentences.term(1, "The spot that is free when all have come is the GAP.", CircleEdges::freeSpot);
        sentences.term(1, "A car is LUCKY if it takes its PREFERENCE.", CircleEdges::lucky);
        sentences.term(1, "MOVED is by how many spots it went on behind its PREFERENCE, and 0 less by how many it went back.",
                CircleEdges::moved);
        sentences.term(1, "The AREA is MOVED of all cars together; the WAY is MOVED of all together, each without its sign.",
                CircleEdges::areaAndWay);
    }

    private static void rotationsAndLine(Sentences sentences) {
        sentences.term(2, "TURN is the last spot less the GAP.", CircleEdges::turnNumber);
        sentences.term(2, "If each PREFERENCE becomes TURN greater, modulo SPOTS (it is TURNED then), all cars take spots that"
                + " are TURN greater, modulo SPOTS, and the last spot is the GAP.", CircleEdges::turned);
        sentences.term(2, "the cars come, as above, on a line of as many spots as there are cars, numbered from 0",
                CircleEdges::line);
        sentences.term(2, "looking back ends at the spot 0, going on at the last one of the line; no car gets to these ends"
                + " without a spot", CircleEdges::endsOfLine);
        sentences.term(2, "The spot of a car is the one that it takes on the line, less TURN, modulo SPOTS.",
                CircleEdges::lessTurn);
        sentences.term(2, "The AREA is, the second way, with n cars n * (n - 1) / 2 less all TURNED PREFERENCES together.",
                CircleEdges::areaSecondWay);
        sentences.term(2, "A BREAK is a number k, 1 to n, if just k cars have a TURNED PREFERENCE below k.",
                CircleEdges::breaks);
    }

    private static void lastCall(Check check) {
        ParkingCircle x = new ParkingCircle();
        for (int call = 1; call <= 511; call++) {
            check.same("turn() as the call " + call, x.turn(99), 0);
        }
        check.same("account() as the call 512", x.account(0), 511);
        ParkingCircle y = new ParkingCircle();
        for (int call = 1; call <= 511; call++) {
            check.noIndex("go() as the call " + call, () -> y.go(0));
        }
        check.same("undo() as the call 512", y.undo(), -1);
    }

    private static void mostCars(Check check) {
        ParkingCircle x = new ParkingCircle();
        for (int car = 0; car < 11; car++) {
            String name = String.valueOf((char) ('k' - car));
            check.same("come", Circles.come(x, name, 0), true);
            check.same("the NAME of the number " + car, Circles.name(x, car), name);
        }
        check.same("one more", Circles.come(x, "l", 0), false);
        check.same("cars", x.setting(0), 11);
        check.same("names", Circles.names(x), "k j i h g f e d c b a");
        check.noIndex("the number 11", () -> x.car(11, 0));
    }

    private static void spots(Check check) {
        for (int cars = 0; cars <= 11; cars++) {
            ParkingCircle x = Circles.alike(0, cars, 0);
            check.same("SPOTS of " + cars, x.setting(1), cars + 1);
            check.onlyIndexes("who() of " + cars, 0, cars, x::who);
        }
    }

    private static void roundTheCircle(Check check) {
        check.same("behind the last one", Circles.spots(Circles.of(0, 3, 3, 3)), "3 0 1");
        check.same("behind the last one of twelve", Circles.spots(Circles.alike(0, 11, 11)), "11 0 1 2 3 4 5 6 7 8 9");
        check.same("ahead of 0", Circles.spots(Circles.of(1, 0, 0)), "0 2");
        check.same("ahead of 0 of twelve", Circles.spots(Circles.alike(5, 11, 0)), "0 11 10 9 8 7 1 2 3 4 5");
        check.same("one car, two spots", Circles.spots(Circles.of(5, 1)), "1");
    }

    private static void preferenceIsSpot(Check check) {
        ParkingCircle x = Circles.rising(3);
        check.onlyArguments("prefer()", 0, 3, n -> x.prefer(0, n));
        TextTests.reads(check, "park 1;car a 0;", "a / 0 / 0");
        TextTests.reads(check, "park 1;car a 1;", "a / 1 / 0");
        TextTests.fails(check, "park 1;car a 2;", 2, 13);
    }

    private static void back(Check check) {
        ParkingCircle x = new ParkingCircle();
        check.same("at first", x.setting(2), 0);
        check.onlyArguments("setBack()", 0, 5, x::setBack);
        check.same("the greatest one", x.setting(2), 5);
        TextTests.reads(check, "park 0;", " /  / 0");
        TextTests.reads(check, "park 0;back 5;", " /  / 5");
        TextTests.fails(check, "park 0;back 6;", 2, 12);
    }

    private static void takesPreference(Check check) {
        check.same("those ahead are free, too", Circles.spots(Circles.of(5, 3, 2, 1)), "3 2 1");
        check.same("the first and the last one", Circles.spots(Circles.of(5, 3, 0, 2)), "3 0 2");
        check.same("eleven cars", Circles.spots(Circles.of(5, 11, 10, 9, 8, 7, 6, 5, 4, 3, 2, 1)),
                "11 10 9 8 7 6 5 4 3 2 1");
        check.same("the last one of two that are free", Circles.spots(Circles.of(0, 0, 1, 2, 3, 4, 6)), "0 1 2 3 4 6");
    }

    private static void looksBack(Check check) {
        check.same("BACK 0", Circles.spots(Circles.of(0, 2, 3, 4, 4, 0)), "2 3 4 5 0");
        check.same("BACK 2, one too few", Circles.spots(Circles.of(2, 2, 3, 4, 4, 0)), "2 3 4 5 0");
        check.same("BACK 3, just enough", Circles.spots(Circles.of(3, 2, 3, 4, 4, 0)), "2 3 4 1 0");
        check.same("BACK 4 round the circle, one too few",
                Circles.spots(Circles.of(4, 9, 10, 11, 0, 1, 1, 2, 3, 4, 5, 6)), "9 10 11 0 1 2 3 4 5 6 7");
        check.same("BACK 5 round the circle, just enough",
                Circles.spots(Circles.of(5, 9, 10, 11, 0, 1, 1, 2, 3, 4, 5, 6)), "9 10 11 0 1 8 2 3 4 5 6");
        check.same("BACK 5, fewer spots than that", Circles.spots(Circles.of(5, 0, 0, 0)), "0 3 2");
    }

    private static void nearestFirst(Check check) {
        check.same("all of them are free", Circles.spots(Circles.of(5, 6, 6, 0, 0, 0, 0)), "6 5 0 4 3 2");
        check.same("the nearest one alone is taken", Circles.spots(Circles.of(5, 4, 5, 5, 0, 0)), "4 5 3 0 2");
        check.same("the nearest one is that ahead of 0", Circles.spots(Circles.of(2, 0, 0, 0, 1)), "0 4 3 1");
    }

    private static void goesOn(Check check) {
        check.same("the next one", Circles.spots(Circles.of(0, 1, 1)), "1 2");
        check.same("the next one is 0", Circles.spots(Circles.of(0, 2, 2)), "2 0");
        check.same("none of 2 ahead is free", Circles.spots(Circles.of(2, 3, 4, 5, 5, 0)), "3 4 5 0 1");
        check.same("one of 3 ahead is free", Circles.spots(Circles.of(3, 3, 4, 5, 5, 0)), "3 4 5 2 0");
        check.same("as far as can be", Circles.spots(Circles.of(0, 0, 1, 2, 3, 4, 5, 6, 7, 8, 9, 0)),
                "0 1 2 3 4 5 6 7 8 9 10");
    }

    private static void freeSpot(Check check) {
        check.same("no car", new ParkingCircle().setting(3), 0);
        check.same("one car at 0", Circles.of(0, 0).setting(3), 1);
        check.same("one car at 1", Circles.of(0, 1).setting(3), 0);
        check.same("the last one of twelve", Circles.rising(11).setting(3), 11);
        check.same("the first one of twelve", Circles.alike(0, 11, 1).setting(3), 0);
        check.same("the last one but one", Circles.alike(0, 11, 11).setting(3), 10);
    }

    private static void lucky(Check check) {
        check.same("no car", new ParkingCircle().setting(4), 0);
        check.same("one car", Circles.of(0, 1).setting(4), 1);
        check.same("all of them", Circles.rising(11).setting(4), 11);
        check.same("the first one alone", Circles.alike(0, 11, 11).setting(4), 1);
        check.same("who goes back is not", Circles.numbers(Circles.of(1, 0, 0), 3), "1 0");
        check.same("who goes on is not", Circles.numbers(Circles.of(0, 2, 2), 3), "1 0");
    }

    private static void moved(Check check) {
        check.same("on over the last spot", Circles.numbers(Circles.of(0, 3, 3, 3), 2), "0 1 2");
        check.same("back over the spot 0", Circles.numbers(Circles.of(1, 0, 0), 2), "0 -1");
        check.same("on as far as can be", Circles.numbers(Circles.alike(0, 11, 11), 2), "0 1 2 3 4 5 6 7 8 9 10");
        check.same("back as far as can be", Circles.numbers(Circles.alike(5, 11, 0), 2), "0 -1 -2 -3 -4 -5 1 2 3 4 5");
    }

    private static void areaAndWay(Check check) {
        areaAndWayAre(check, new ParkingCircle(), 0, 0);
        areaAndWayAre(check, Circles.rising(11), 0, 0);
        areaAndWayAre(check, Circles.of(1, 0, 0), -1, 1);
        areaAndWayAre(check, Circles.of(1, 1, 1, 1), 0, 2);
        areaAndWayAre(check, Circles.alike(5, 11, 0), 0, 30);
        areaAndWayAre(check, Circles.alike(0, 11, 11), 55, 55);
    }

    private static void areaAndWayAre(Check check, ParkingCircle x, int area, int way) {
        check.same("AREA", x.setting(5), area);
        check.same("WAY", x.setting(6), way);
    }

    private static void turnNumber(Check check) {
        check.same("no car", new ParkingCircle().setting(7), 0);
        check.same("the last spot is the GAP", Circles.rising(11).setting(7), 0);
        check.same("the last one but one is", Circles.alike(0, 11, 11).setting(7), 1);
        check.same("the spot 0 of twelve is", Circles.alike(0, 11, 1).setting(7), 11);
        check.same("the spot 0 of two is", Circles.of(0, 1).setting(7), 1);
    }

    private static void turned(Check check) {
        turnedAre(check, new ParkingCircle(), "", "");
        turnedAre(check, Circles.of(0, 0), "0", "0");
        turnedAre(check, Circles.of(0, 1), "0", "0");
        turnedAre(check, Circles.of(0, 2, 2, 0, 2), "0 0 3 0", "0 1 3 2");
        turnedAre(check, Circles.of(2, 1, 1, 1), "2 2 2", "2 1 0");
        turnedAre(check, Circles.of(1, 0, 0), "1 1", "1 0");
        turnedAre(check, Circles.alike(0, 11, 11), "0 0 0 0 0 0 0 0 0 0 0", "0 1 2 3 4 5 6 7 8 9 10");
        turnedAre(check, Circles.alike(0, 11, 1), "0 0 0 0 0 0 0 0 0 0 0", "0 1 2 3 4 5 6 7 8 9 10");
    }

    private static void turnedAre(Check check, ParkingCircle x, String preferences, String spots) {
        check.same("TURNED", Circles.numbers(x, 5), preferences);
        x.turn(x.setting(7));
        check.same("PREFERENCES then", Circles.preferences(x), preferences);
        check.same("spots then", Circles.spots(x), spots);
        check.same("GAP then", x.setting(3), x.setting(0));
    }

    private static void line(Check check) {
        check.same("no car, no spot", new ParkingCircle().gap(), 0);
        check.noIndex("no car, no spot", () -> new ParkingCircle().spotByLine(0));
        check.same("one car, one spot", Circles.of(0, 0).spotByLine(0), 0);
        check.same("one car, one spot", Circles.of(0, 1).spotByLine(0), 1);
        check.same("eleven cars", Circles.spotsByLine(Circles.rising(11)), "0 1 2 3 4 5 6 7 8 9 10");
    }

    private static void endsOfLine(Check check) {
        check.same("back to the spot 0", Circles.spotsByLine(Circles.of(2, 1, 1, 2)), "1 0 2");
        check.same("back over a taken one to 0", Circles.spotsByLine(Circles.of(5, 2, 1, 2)), "2 1 0");
        check.same("back to the spot that is 0 on the line", Circles.spotsByLine(Circles.of(5, 3, 2, 3)), "3 2 1");
        check.same("on to the last one", Circles.spotsByLine(Circles.of(0, 1, 1, 0)), "1 2 0");
        check.same("on to the one that is the last one on the line", Circles.spotsByLine(Circles.of(0, 2, 2, 1)), "2 3 1");
        check.same("on over all others", Circles.spotsByLine(Circles.of(0, 0, 1, 2, 3, 4, 5, 6, 7, 8, 9, 0)),
                "0 1 2 3 4 5 6 7 8 9 10");
        for (int[] preferences : EveryRowTests.rows(3)) {
            for (int back = 0; back <= 5; back++) {
                ParkingCircle x = Circles.of(back, preferences);
                check.same("each has its spot", Circles.spotsByLine(x), EveryRowTests.plainSpots(preferences, back));
            }
        }
    }

    private static void lessTurn(Check check) {
        check.same("TURN 0", Circles.spotsByLine(Circles.of(0, 0, 0, 1)), "0 1 2");
        check.same("TURN 3 of five", Circles.spotsByLine(Circles.of(0, 2, 2, 0, 2)), "2 3 0 4");
        check.same("TURN 1 of twelve", Circles.spotsByLine(Circles.alike(0, 11, 11)), "11 0 1 2 3 4 5 6 7 8 9");
        check.same("TURN 11 of twelve", Circles.spotsByLine(Circles.alike(0, 11, 1)), "1 2 3 4 5 6 7 8 9 10 11");
    }

    private static void areaSecondWay(Check check) {
        areaByTurned(check, new ParkingCircle(), 0);
        areaByTurned(check, Circles.of(0, 1), 0);
        areaByTurned(check, Circles.of(1, 0, 0), -1);
        areaByTurned(check, Circles.of(2, 1, 1, 1), -3);
        areaByTurned(check, Circles.rising(11), 0);
        areaByTurned(check, Circles.alike(0, 11, 11), 55);
        areaByTurned(check, Circles.alike(5, 11, 0), 0);
    }

    private static void areaByTurned(Check check, ParkingCircle x, int area) {
        int cars = x.setting(0);
        int byTurned = cars * (cars - 1) / 2;
        for (int car = 0; car < cars; car++) {
            byTurned -= x.car(car, 5);
        }
        check.same("the second way", byTurned, area);
        check.same("the first way", x.setting(5), area);
        check.same("they do not differ", x.gap(), 0);
    }

    private static void breaks(Check check) {
        breaksAre(check, new ParkingCircle(), "");
        breaksAre(check, Circles.of(0, 0), "1");
        breaksAre(check, Circles.of(0, 1), "1");
        breaksAre(check, Circles.alike(0, 11, 11), "11");
        breaksAre(check, Circles.rising(11), "1 2 3 4 5 6 7 8 9 10 11");
        breaksAre(check, Circles.of(0, 2, 2, 0, 2), "3 4");
        breaksAre(check, Circles.of(0, 3, 3, 0, 3, 2, 3), "1 5 6");
    }

    private static void breaksAre(Check check, ParkingCircle x, String due) {
        StringBuilder row = new StringBuilder();
        for (int k = 0; k < 13 && x.breakAt(k) != -1; k++) {
            row.append(k == 0 ? "" : " ").append(x.breakAt(k));
        }
        check.same("BREAKS", row.toString(), due);
        check.same("how many", x.setting(8), due.isEmpty() ? 0 : due.split(" ").length);
    }
}
