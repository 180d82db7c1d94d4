import java.util.ArrayList;
import java.util.List;

/** All rows of PREFERENCES for few cars, parked once more in the plainest way. */
final class EveryRowTests {
    private EveryRowTests() {
    }

    static void all(Check check) {
        check.test("promises 10, 14, 15: all rows of up to 4 cars with every BACK", EveryRowTests::everyRow);
    }

    /** Each row of so many PREFERENCES. */
    static List<int[]> rows(int cars) {
        int number = 1;
        for (int i = 0; i < cars; i++) {
            number *= cars + 1;
        }
        List<int[]> rows = new ArrayList<>();
        for (int row = 0; row < number; row++) {
            int[] preferences = new int[cars];
            int rest = row;
            for (int car = 0; car < cars; car++) {
                preferences[car] = rest % (cars + 1);
                rest /= cars + 1;
            }
            rows.add(preferences);
        }
        return rows;
    }

    /** The spots of all cars, one space between two. */
    static String plainSpots(int[] preferences, int back) {
        int size = preferences.length + 1;
        boolean[] isTaken = new boolean[size];
        StringBuilder row = new StringBuilder();
        for (int preference : preferences) {
            int spot = preference;
            for (int by = 1; by <= back && isTaken[spot]; by++) {
                spot = (preference - by + size * back) % size;
            }
            for (int by = 1; isTaken[spot]; by++) {
                spot = (preference + by) % size;
            }
            isTaken[spot] = true;
            row.append(row.length() == 0 ? "" : " ").append(spot);
        }
        return row.toString();
    }

    private static void everyRow(Check check) {
        for (int cars = 0; cars <= 4; cars++) {
            for (int[] preferences : rows(cars)) {
                for (int back = 0; back <= 5; back++) {
                    ParkingCircle x = Circles.of(back, preferences);
                    check.same("spots", Circles.spots(x), plainSpots(preferences, back));
                    check.same("spots by line", Circles.spotsByLine(x), plainSpots(preferences, back));
                    check.same("gap", x.gap(), 0);
                    check.same("codeGap", x.codeGap(), 0);
                }
            }
        }
    }
}
