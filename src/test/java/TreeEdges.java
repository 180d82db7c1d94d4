/** The boundary cases of Terms 4 (the tree) and of the promises 26 to 32. */
final class TreeEdges {
    private static final String STAR_CODE = "11 11 11 11 11 11 11 11 11 11";
    private static final String STAR_EDGES = "11 111 211 311 411 511 611 711 811 911 1011";
    private static final String PATH_CODE = "1 2 3 4 5 6 7 8 9 10";
    private static final String PATH_EDGES = "1 102 203 304 405 506 607 708 809 910 1011";

    private TreeEdges() {
    }

    static void all(Sentences sentences) {
        terms(sentences);
        promises(sentences);
    }

    private static void terms(Sentences sentences) {
        sentences.term(4, "It has SPOTS nodes, numbered from 0.", TreeEdges::nodes);
        sentences.term(4, "Its CODE are n - 1 numbers (none for 0 or 1 cars)", TreeEdges::numbers);
        sentences.term(4, "is the PREFERENCE of the car k + 1 less that of the car k, modulo SPOTS", TreeEdges::differences);
        sentences.term(4, "At first all nodes are there, and each has a weight: 1 more than how often it stands in the CODE.",
                TreeEdges::weights);
        sentences.term(4, "an edge joins the least node that is there and has a weight of 1 with this number; that node is there"
                + " no more, and the weight of the other one becomes 1 less", TreeEdges::leastNode);
        sentences.term(4, "Then an edge joins the two nodes that are still there and have a weight of 1", TreeEdges::lastEdge);
        sentences.term(4, "(without cars there is one node and no edge)", TreeEdges::withoutCars);
        sentences.term(4, "Edges are numbered from 0 in this order.", TreeEdges::order);
    }

    private static void promises(Sentences sentences) {
        sentences.promise(26, "NONE if there is none (k: any int)", TreeEdges::noCode);
        sentences.promise(27, "100 times the lesser node, plus the greater one", TreeEdges::lesserFirst);
        sentences.promise(27, "NONE if there is none (k: any int)", TreeEdges::noEdge);
        sentences.promise(28, "degree(int node) throws IndexOutOfBoundsException", TreeEdges::degreeOutside);
        sentences.promise(28, "Returns at how many edges a node is.", TreeEdges::degree);
        sentences.promise(29, "far(int node, int other) throws IndexOutOfBoundsException", TreeEdges::farOutside);
        sentences.promise(29, "Returns on how many edges one gets from a node to another one.", TreeEdges::far);
        sentences.promise(30, "Returns the greatest far() of all nodes.", TreeEdges::wide);
        sentences.promise(31, "Returns nodes with one edge.", TreeEdges::leaves);
        sentences.promise(32, "again and again the least node with one edge goes, and the node to which it leads is told (0)",
                TreeEdges::codeGap);
    }

    /** Each number of the CODE is 11: the node 11 leads to all others. */
    private static ParkingCircle star() {
        return Circles.of(0, 11, 10, 9, 8, 7, 6, 5, 4, 3, 2, 1);
    }

    /** The numbers of the CODE are 1 to 10: each node leads to the next one. */
    private static ParkingCircle path() {
        return Circles.of(0, 0, 1, 3, 6, 10, 3, 9, 4, 0, 9, 7);
    }

    private static void nodes(Check check) {
        for (int cars = 0; cars <= 11; cars++) {
            ParkingCircle x = Circles.rising(cars);
            check.onlyIndexes("degree() of " + cars + " cars", 0, cars, x::degree);
        }
    }

    private static void numbers(Check check) {
        check.same("no car", new ParkingCircle().code(0), -1);
        check.same("one car", Circles.of(0, 1).code(0), -1);
        check.same("two cars", TreeTests.codeOf(Circles.of(0, 2, 2)), "0");
        check.same("eleven cars", TreeTests.codeOf(Circles.alike(0, 11, 11)), "0 0 0 0 0 0 0 0 0 0");
    }

    private static void differences(Check check) {
        check.same("1 more", TreeTests.codeOf(Circles.of(0, 0, 1)), "1");
        check.same("1 less", TreeTests.codeOf(Circles.of(0, 1, 0)), "2");
        check.same("0", TreeTests.codeOf(Circles.of(0, 1, 1)), "0");
        check.same("from the first spot to the last one and back",
                TreeTests.codeOf(Circles.of(0, 0, 11, 0, 11, 0, 11, 0, 11, 0, 11, 0)), "11 1 11 1 11 1 11 1 11 1");
        check.same("1 less each", TreeTests.codeOf(star()), STAR_CODE);
        check.same("round the circle", TreeTests.codeOf(path()), PATH_CODE);
    }

    private static void weights(Check check) {
        check.same("a node that never stands there is a leaf", TreeTests.degreesOf(Circles.of(0, 0, 1)), "1 2 1");
        check.same("one that stands there each time", TreeTests.degreesOf(star()), "1 1 1 1 1 1 1 1 1 1 1 11");
        check.same("each one once but two", TreeTests.degreesOf(path()), "1 2 2 2 2 2 2 2 2 2 2 1");
    }

    private static void leastNode(Check check) {
        check.same("of all but one", TreeTests.edgesOf(star()), STAR_EDGES);
        check.same("of two, the one that the edge ahead has left", TreeTests.edgesOf(path()), PATH_EDGES);
        check.same("that of the first number is none", TreeTests.edgesOf(Circles.of(0, 0, 0, 0)), "1 2 3");
        check.same("a lesser one becomes free later", TreeTests.edgesOf(Circles.of(0, 0, 0, 3)), "1 3 203");
    }

    private static void lastEdge(Check check) {
        check.same("one car: the only one", TreeTests.edgesOf(Circles.of(0, 0)), "1");
        check.same("two cars", TreeTests.edgesOf(Circles.of(0, 0, 2)), "2 102");
        check.same("eleven cars: with the last node", star().edge(10), 1011);
        check.same("eleven cars: with the node 0", Circles.alike(0, 11, 0).edge(10), 11);
    }

    private static void withoutCars(Check check) {
        ParkingCircle x = new ParkingCircle();
        check.same("no number", x.code(0), -1);
        check.same("no edge", x.edge(0), -1);
        check.same("no edge at the node", x.degree(0), 0);
        check.same("no way", x.far(0, 0), 0);
        check.same("wide", x.wide(), 0);
        check.same("leaves", x.leaves(), 0);
        check.same("codeGap", x.codeGap(), 0);
    }

    private static void order(Check check) {
        for (int cars = 0; cars <= 11; cars++) {
            ParkingCircle x = Circles.rising(cars);
            for (int k = 0; k < cars; k++) {
                check.same("the edge " + k + " of " + cars, x.edge(k) != -1, true);
            }
            check.same("one more edge of " + cars, x.edge(cars), -1);
        }
        check.same("the first one", path().edge(0), 1);
        check.same("the last one", path().edge(10), 1011);
    }

    private static void noCode(Check check) {
        for (int cars = 0; cars <= 11; cars++) {
            ParkingCircle x = Circles.rising(cars);
            int numbers = Math.max(0, cars - 1);
            for (int k : new int[] {Integer.MIN_VALUE, -2, -1, numbers, numbers + 1, 12, Integer.MAX_VALUE}) {
                check.same("code " + k + " of " + cars + " cars", x.code(k), -1);
            }
        }
    }

    private static void lesserFirst(Check check) {
        check.same("the node that goes is the lesser one", star().edge(0), 11);
        check.same("the node that goes is the greater one", Circles.alike(0, 11, 0).edge(9), 10);
        check.same("the greatest one of all", star().edge(10), 1011);
        check.same("with the node 0", Circles.of(0, 1).edge(0), 1);
    }

    private static void noEdge(Check check) {
        for (int cars = 0; cars <= 11; cars++) {
            ParkingCircle x = Circles.rising(cars);
            for (int k : new int[] {Integer.MIN_VALUE, -2, -1, cars, cars + 1, 12, Integer.MAX_VALUE}) {
                check.same("edge " + k + " of " + cars + " cars", x.edge(k), -1);
            }
        }
    }

    private static void degreeOutside(Check check) {
        check.onlyIndexes("without cars", 0, 0, n -> new ParkingCircle().degree(n));
        check.onlyIndexes("one car", 0, 1, n -> Circles.of(0, 1).degree(n));
        check.onlyIndexes("eleven cars", 0, 11, n -> star().degree(n));
    }

    private static void degree(Check check) {
        check.same("at none", new ParkingCircle().degree(0), 0);
        check.same("at one", Circles.of(0, 1).degree(1), 1);
        check.same("at all of eleven", star().degree(11), 11);
        check.same("at one of eleven", star().degree(0), 1);
    }

    private static void farOutside(Check check) {
        check.onlyIndexes("node", 0, 11, n -> path().far(n, 0));
        check.onlyIndexes("other", 0, 11, n -> path().far(0, n));
        check.onlyIndexes("both, without cars", 0, 0, n -> new ParkingCircle().far(n, n));
        check.onlyIndexes("other, without cars", 0, 0, n -> new ParkingCircle().far(0, n));
        check.onlyIndexes("other, the node that is no car's number", 0, 1, n -> Circles.of(0, 1).far(0, n));
    }

    private static void far(Check check) {
        ParkingCircle x = path();
        for (int node = 0; node < 12; node++) {
            check.same("from a node to itself", x.far(node, node), 0);
            check.same("from one end of the path", x.far(0, node), node);
            check.same("to one end of the path", x.far(node, 0), node);
            check.same("in the star", star().far(node, 11), node == 11 ? 0 : 1);
            check.same("over the star", star().far(0, node), node == 0 ? 0 : node == 11 ? 1 : 2);
        }
        check.same("over the node 0", Circles.of(0, 2, 2, 0, 2).far(1, 3), 2);
        check.same("from one end over the node 0 to the other one", Circles.of(0, 2, 2, 0, 2).far(1, 4), 4);
    }

    private static void wide(Check check) {
        check.same("one node", new ParkingCircle().wide(), 0);
        check.same("two nodes", Circles.of(0, 1).wide(), 1);
        check.same("the star of twelve", star().wide(), 2);
        check.same("the path of twelve", path().wide(), 11);
        check.same("between two nodes in the middle of the order", Circles.of(0, 0, 2, 3).wide(), 3);
    }

    private static void leaves(Check check) {
        check.same("one node has no edge", new ParkingCircle().leaves(), 0);
        check.same("both of two", Circles.of(0, 1).leaves(), 2);
        check.same("the star of twelve", star().leaves(), 11);
        check.same("the path of twelve", path().leaves(), 2);
    }

    private static void codeGap(Check check) {
        check.same("no number, no edge", new ParkingCircle().codeGap(), 0);
        check.same("no number, one edge", Circles.of(0, 1).codeGap(), 0);
        check.same("one number", Circles.of(0, 0, 2).codeGap(), 0);
        check.same("the star of twelve", star().codeGap(), 0);
        check.same("the path of twelve", path().codeGap(), 0);
        ParkingCircle x = star();
        x.codeGap();
        check.same("the same one once more", x.codeGap(), 0);
    }
}
