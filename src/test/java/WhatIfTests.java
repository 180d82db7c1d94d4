/** Promises 35 to 40: what would be. */
final class WhatIfTests {
    private static final int[] OFF = {-1, 5, 6, 11, 12, Integer.MIN_VALUE, Integer.MAX_VALUE};
    private static final int[][] ROWS = {{}, {1}, {2, 2, 0, 2}, {1, 1, 1}, {3, 0, 0, 3, 3, 6, 6}, {4, 4, 5, 5, 0},
        {11, 11, 11, 3, 3, 3, 3, 8, 0, 0, 11}};

    private WhatIfTests() {
    }

    static void all(Check check) {
        check.test("promise 35: spotIf", WhatIfTests::spotIf);
        check.test("promise 36: settingIf", WhatIfTests::settingIf);
        check.test("promise 37: bestFor", WhatIfTests::bestFor);
        check.test("promise 38: latest", WhatIfTests::latest);
        check.test("promise 39: wayBy", WhatIfTests::wayBy);
        check.test("promise 40: bestBack", WhatIfTests::bestBack);
        check.test("promises 35 to 40: against circles that are so", WhatIfTests::againstOthers);
        check.test("promises 35 to 40: nothing changes", WhatIfTests::nothingChanges);
        check.test("promises 35 to 40: behind a change", WhatIfTests::behindChange);
    }

    private static ParkingCircle four() {
        return Circles.of(0, 2, 2, 0, 2);
    }

    private static void spotIf(Check check) {
        ParkingCircle x = four();
        int[][] due = {{0, 1, 2, 3, 4}, {0, 1, 3, 3, 4}, {0, 1, 4, 4, 4}, {1, 1, 4, 4, 4}};
        for (int car = 0; car < 4; car++) {
            for (int preference = 0; preference < 5; preference++) {
                check.same("spotIf " + car + " " + preference, x.spotIf(car, preference), due[car][preference]);
            }
        }
        ParkingCircle y = Circles.of(2, 1, 1, 1);
        int[] back = {3, 3, 2, 3};
        for (int preference = 0; preference < 4; preference++) {
            check.same("with BACK", y.spotIf(2, preference), back[preference]);
        }
        for (int off : OFF) {
            check.noArgument("preference " + off, () -> x.spotIf(0, off));
            check.noIndex("the car comes first", () -> x.spotIf(off, off));
            check.noIndex("car " + off, () -> x.spotIf(off, 0));
        }
        check.noIndex("car 4", () -> x.spotIf(4, 0));
        check.noIndex("without cars", () -> new ParkingCircle().spotIf(0, 0));
    }

    private static void settingIf(Check check) {
        ParkingCircle x = four();
        int[] due = {4, 5, 0, 4, 3, 1, 1, 0, 3, 3};
        for (int what = 0; what < 10; what++) {
            check.same("settingIf " + what, x.settingIf(3, 1, what), due[what]);
        }
        for (int what : new int[] {-1, 10, 11, Integer.MIN_VALUE, Integer.MAX_VALUE}) {
            check.noArgument("what " + what, () -> x.settingIf(0, 0, what));
        }
        for (int off : OFF) {
            check.noArgument("preference " + off, () -> x.settingIf(0, off, 0));
            check.noIndex("the car comes first", () -> x.settingIf(off, off, -1));
            check.noIndex("car " + off, () -> x.settingIf(off, 0, 0));
        }
        check.noIndex("car 4", () -> x.settingIf(4, 0, 0));
    }

    private static void bestFor(Check check) {
        int[] due = {1, 1, 0, 1};
        for (int car = 0; car < 4; car++) {
            check.same("bestFor " + car, four().bestFor(car), due[car]);
        }
        check.same("one car", Circles.of(0, 1).bestFor(0), 0);
        check.same("the last spot", Circles.of(0, 0, 1, 2, 0).bestFor(3), 3);
        for (int off : new int[] {-1, 4, 5, 12, Integer.MIN_VALUE, Integer.MAX_VALUE}) {
            check.noIndex("bestFor " + off, () -> four().bestFor(off));
        }
    }

    private static void latest(Check check) {
        int[] due = {0, 0, 3, 0};
        for (int car = 0; car < 4; car++) {
            check.same("latest " + car, four().latest(car), due[car]);
        }
        check.same("ahead of one that goes back", Circles.of(1, 1, 2, 2).latest(0), 1);
        check.same("they do not go back", Circles.of(0, 1, 2, 2).latest(0), 2);
        check.same("ahead of one that goes on", Circles.of(0, 0, 0, 3, 2, 2, 3).latest(2), 3);
        check.same("one car", Circles.of(0, 1).latest(0), 0);
        for (int off : new int[] {-1, 4, 5, 12, Integer.MIN_VALUE, Integer.MAX_VALUE}) {
            check.noIndex("latest " + off, () -> four().latest(off));
        }
    }

    private static void wayBy(Check check) {
        int[] due = {3, 2, 2, 4, 4, 4};
        for (int back = 0; back < 6; back++) {
            check.same("wayBy " + back, four().wayBy(back), due[back]);
        }
        check.same("with another BACK", Circles.of(3, 2, 2, 0, 2).wayBy(0), 3);
        check.same("none", new ParkingCircle().wayBy(5), 0);
        for (int off : new int[] {-1, 6, 7, Integer.MIN_VALUE, Integer.MAX_VALUE}) {
            check.noArgument("wayBy " + off, () -> four().wayBy(off));
        }
    }

    private static void bestBack(Check check) {
        check.same("four", four().bestBack(), 1);
        check.same("with another BACK", Circles.of(5, 2, 2, 0, 2).bestBack(), 1);
        check.same("none", new ParkingCircle().bestBack(), 0);
        check.same("all lucky", Circles.of(4, 0, 1, 2).bestBack(), 0);
        check.same("2", Circles.of(0, 2, 5, 0, 4, 0, 1, 0).bestBack(), 2);
        check.same("3", Circles.of(0, 1, 5, 3, 2, 6, 0, 3, 2).bestBack(), 3);
        check.same("4", Circles.of(0, 6, 0, 5, 7, 11, 7, 0, 6, 7, 6, 9).bestBack(), 4);
        check.same("5", Circles.of(0, 5, 7, 4, 5, 6, 5, 1, 7, 10, 5, 8).bestBack(), 5);
        check.noArgument("more than 5 is none", () -> new ParkingCircle().wayBy(6));
    }

    private static ParkingCircle changed(int[] row, int back, int car, int preference) {
        int[] other = row.clone();
        other[car] = preference;
        return Circles.of(back, other);
    }

    private static void againstOthers(Check check) {
        for (int[] row : ROWS) {
            for (int back = 0; back <= 5; back++) {
                ParkingCircle x = Circles.of(back, row);
                for (int car = 0; car < row.length; car++) {
                    compareCar(check, x, row, back, car);
                }
                check.same("wayBy", Circles.of(2, row).wayBy(back), x.setting(6));
                check.same("bestBack", x.bestBack(), bestBackOf(row));
            }
        }
    }

    private static void compareCar(Check check, ParkingCircle x, int[] row, int back, int car) {
        int best = -1;
        int most = -1;
        for (int preference = 0; preference <= row.length; preference++) {
            ParkingCircle y = changed(row, back, car, preference);
            check.same("spotIf", x.spotIf(car, preference), y.car(car, 1));
            for (int what = 0; what < 10; what++) {
                check.same("settingIf " + what, x.settingIf(car, preference, what), y.setting(what));
            }
            if (y.setting(4) > most) {
                most = y.setting(4);
                best = preference;
            }
        }
        check.same("bestFor", x.bestFor(car), best);
        check.same("latest", x.latest(car), latestOf(row, back, car));
    }

    private static int latestOf(int[] row, int back, int car) {
        int found = -1;
        for (int place = 0; place < row.length; place++) {
            int[] others = new int[row.length];
            int next = 0;
            for (int i = 0; i < row.length; i++) {
                if (i != car) {
                    others[next < place ? next : next + 1] = row[i];
                    next++;
                }
            }
            others[place] = row[car];
            if (Circles.of(back, others).car(place, 3) == 1) {
                found = place;
            }
        }
        return found;
    }

    private static int bestBackOf(int[] row) {
        int best = 0;
        for (int back = 1; back <= 5; back++) {
            if (Circles.of(back, row).setting(6) < Circles.of(best, row).setting(6)) {
                best = back;
            }
        }
        return best;
    }

    /** A circle with the row 2 3 0 2 that was another one before. */
    private static ParkingCircle other() {
        ParkingCircle x = four();
        x.prefer(1, 3);
        return x;
    }

    private static void behindChange(Check check) {
        check.same("spotIf", other().spotIf(3, 3), 4);
        check.same("spotIf", other().spotIf(3, 0), 1);
        check.same("settingIf", other().settingIf(3, 1, 4), 4);
        check.same("settingIf", other().settingIf(2, 2, 4), 2);
        check.same("bestFor", other().bestFor(2), 0);
        check.same("bestFor", other().bestFor(3), 1);
        check.same("latest", other().latest(1), 2);
        check.same("latest", other().latest(0), 2);
        check.same("wayBy", other().wayBy(0), 2);
        check.same("wayBy", other().wayBy(1), 1);
        check.same("bestBack", other().bestBack(), 1);
    }

    private static void nothingChanges(Check check) {
        ParkingCircle x = Circles.of(2, 2, 2, 0, 2);
        x.feed(1, 2, 3, 4, 5);
        x.spotIf(0, 4);
        x.settingIf(1, 4, 3);
        x.bestFor(2);
        x.latest(0);
        x.latest(3);
        x.wayBy(5);
        x.bestBack();
        check.same("state", Circles.state(x), "a b c d / 2 2 0 2 / 2");
        check.same("accounts", Circles.accounts(x), "0 0 0 0 0");
        check.same("undo", x.undo(), -1);
        check.same("buffer", x.truncate(20), 20);
    }
}
