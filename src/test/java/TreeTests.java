/** Promises 26 to 32: the tree. */
final class TreeTests {
    private static final int[] NO_INDEX = {-2, -1, 11, 12, 100, Integer.MIN_VALUE, Integer.MAX_VALUE};

    private TreeTests() {
    }

    static void all(Check check) {
        check.test("promise 26: code", TreeTests::code);
        check.test("promise 27: edge", TreeTests::edge);
        check.test("promise 28: degree", TreeTests::degree);
        check.test("promise 29: far", TreeTests::far);
        check.test("promise 30: wide", TreeTests::wide);
        check.test("promise 31: leaves", TreeTests::leaves);
        check.test("promise 32: codeGap", TreeTests::codeGap);
        check.test("promises 26 to 32: a star and a path of twelve nodes", TreeTests::twelveNodes);
    }

    /** Its edges lead from 1 to 0, 0 to 3, 3 to 2, and 2 to 4. */
    private static ParkingCircle path() {
        return Circles.of(0, 2, 2, 0, 2);
    }

    /** Eight nodes: 4 leads to 0, 2, 3 and 5; 5 to 6 and 1; 1 to 7. */
    private static ParkingCircle bush() {
        return Circles.of(0, 3, 7, 3, 7, 4, 1, 2);
    }

    static String codeOf(ParkingCircle x) {
        StringBuilder row = new StringBuilder();
        for (int k = 0; x.code(k) != -1; k++) {
            row.append(k == 0 ? "" : " ").append(x.code(k));
        }
        return row.toString();
    }

    static String edgesOf(ParkingCircle x) {
        StringBuilder row = new StringBuilder();
        for (int k = 0; x.edge(k) != -1; k++) {
            row.append(k == 0 ? "" : " ").append(x.edge(k));
        }
        return row.toString();
    }

    static String degreesOf(ParkingCircle x) {
        StringBuilder row = new StringBuilder();
        for (int node = 0; node < x.setting(1); node++) {
            row.append(node == 0 ? "" : " ").append(x.degree(node));
        }
        return row.toString();
    }

    private static void code(Check check) {
        check.same("path", codeOf(path()), "0 3 2");
        check.same("bush", codeOf(bush()), "4 4 4 5 5 1");
        check.same("none", codeOf(new ParkingCircle()), "");
        check.same("one car", codeOf(Circles.of(0, 1)), "");
        check.same("two cars", codeOf(Circles.of(0, 2, 0)), "1");
        check.same("two cars", codeOf(Circles.of(3, 0, 2)), "2");
        for (int k : NO_INDEX) {
            check.same("code " + k, path().code(k), -1);
        }
        check.same("behind the last one", path().code(3), -1);
    }

    private static void edge(Check check) {
        check.same("path", edgesOf(path()), "1 3 203 204");
        check.same("bush", edgesOf(bush()), "4 204 304 405 506 105 107");
        check.same("none", edgesOf(new ParkingCircle()), "");
        check.same("one car", edgesOf(Circles.of(0, 1)), "1");
        check.same("two cars", edgesOf(Circles.of(0, 2, 0)), "1 102");
        check.same("two cars", edgesOf(Circles.of(0, 1, 1)), "1 2");
        for (int k : NO_INDEX) {
            check.same("edge " + k, path().edge(k), -1);
        }
        check.same("behind the last one", path().edge(4), -1);
    }

    private static void degree(Check check) {
        check.same("path", degreesOf(path()), "2 1 2 2 1");
        check.same("bush", degreesOf(bush()), "1 2 1 1 4 3 1 1");
        check.same("none", degreesOf(new ParkingCircle()), "0");
        check.same("one car", degreesOf(Circles.of(0, 1)), "1 1");
        for (int node : new int[] {-1, 5, 6, 12, Integer.MIN_VALUE, Integer.MAX_VALUE}) {
            check.noIndex("degree " + node, () -> path().degree(node));
        }
    }

    private static void far(Check check) {
        ParkingCircle x = path();
        int[] places = {1, 0, 3, 2, 4};
        for (int node = 0; node < 5; node++) {
            for (int other = 0; other < 5; other++) {
                check.same("far " + node + " " + other, x.far(node, other), Math.abs(places[node] - places[other]));
            }
        }
        ParkingCircle y = bush();
        int[] from6 = {3, 2, 3, 3, 2, 1, 0, 3};
        for (int node = 0; node < 8; node++) {
            check.same("far 6 " + node, y.far(6, node), from6[node]);
            check.same("far " + node + " 6", y.far(node, 6), from6[node]);
        }
        check.same("far 0 7", y.far(0, 7), 4);
        check.same("far 0 2", y.far(0, 2), 2);
        check.same("none", new ParkingCircle().far(0, 0), 0);
        for (int node : new int[] {-1, 5, 6, 12, Integer.MIN_VALUE, Integer.MAX_VALUE}) {
            check.noIndex("far " + node, () -> x.far(node, 0));
            check.noIndex("far to " + node, () -> x.far(0, node));
            check.noIndex("far " + node + " both", () -> x.far(node, node));
        }
    }

    private static void wide(Check check) {
        check.same("path", path().wide(), 4);
        check.same("bush", bush().wide(), 4);
        check.same("none", new ParkingCircle().wide(), 0);
        check.same("one car", Circles.of(0, 1).wide(), 1);
        check.same("two cars", Circles.of(0, 1, 1).wide(), 2);
    }

    private static void leaves(Check check) {
        check.same("path", path().leaves(), 2);
        check.same("bush", bush().leaves(), 5);
        check.same("none", new ParkingCircle().leaves(), 0);
        check.same("one car", Circles.of(0, 1).leaves(), 2);
        check.same("two cars", Circles.of(0, 1, 1).leaves(), 2);
    }

    private static void codeGap(Check check) {
        check.same("path", path().codeGap(), 0);
        check.same("bush", bush().codeGap(), 0);
        check.same("none", new ParkingCircle().codeGap(), 0);
        check.same("one car", Circles.of(0, 1).codeGap(), 0);
        check.same("two cars", Circles.of(0, 1, 1).codeGap(), 0);
        ParkingCircle x = bush();
        check.same("codeGap", x.codeGap(), 0);
        check.same("once more", x.codeGap(), 0);
        x.swap(2);
        check.same("codeGap behind a change", x.codeGap(), 0);
        check.same("code behind it", codeOf(x), "4 0 4 1 5 1");
    }

    private static void twelveNodes(Check check) {
        ParkingCircle star = Circles.of(0, 11, 10, 9, 8, 7, 6, 5, 4, 3, 2, 1);
        check.same("code", codeOf(star), "11 11 11 11 11 11 11 11 11 11");
        check.same("edges", edgesOf(star), "11 111 211 311 411 511 611 711 811 911 1011");
        check.same("degrees", degreesOf(star), "1 1 1 1 1 1 1 1 1 1 1 11");
        check.same("wide", star.wide(), 2);
        check.same("leaves", star.leaves(), 11);
        check.same("codeGap", star.codeGap(), 0);
        ParkingCircle path = Circles.of(0, 0, 1, 3, 6, 10, 3, 9, 4, 0, 9, 7);
        check.same("code", codeOf(path), "1 2 3 4 5 6 7 8 9 10");
        check.same("edges", edgesOf(path), "1 102 203 304 405 506 607 708 809 910 1011");
        check.same("wide", path.wide(), 11);
        check.same("leaves", path.leaves(), 2);
        check.same("far", path.far(11, 0), 11);
        check.same("far", path.far(3, 9), 6);
        check.noIndex("no node 12", () -> path.degree(12));
    }
}
