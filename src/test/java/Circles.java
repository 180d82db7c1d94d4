import java.nio.charset.StandardCharsets;
import java.util.Arrays;

/** Makes circles from texts, and tells rows of answers as texts. */
final class Circles {
    private Circles() {
    }

    static void feed(ParkingCircle x, String text) {
        feed(x, text.getBytes(StandardCharsets.ISO_8859_1));
    }

    /** The buffer is empty before; just these bytes are in it behind. */
    static void feed(ParkingCircle x, byte[] bytes) {
        x.truncate(0);
        for (int from = 0; from < bytes.length; from += 20) {
            x.feed(four(bytes, from), four(bytes, from + 4), four(bytes, from + 8), four(bytes, from + 12),
                    four(bytes, from + 16));
        }
        x.truncate(bytes.length);
    }

    static int four(byte[] bytes, int from) {
        int four = 0;
        for (int i = from; i < from + 4; i++) {
            four = four << 8 | (i < bytes.length ? bytes[i] & 255 : 0);
        }
        return four;
    }

    static ParkingCircle read(String text) {
        ParkingCircle x = new ParkingCircle();
        feed(x, text);
        x.readText();
        return x;
    }

    /** Cars with the NAMES a, b, c .. and these PREFERENCES. */
    static ParkingCircle of(int back, int... preferences) {
        StringBuilder text = new StringBuilder("park " + preferences.length + ";back " + back + ";");
        for (int car = 0; car < preferences.length; car++) {
            text.append("car ").append((char) ('a' + car)).append(' ').append(preferences[car]).append(';');
        }
        return read(text.toString());
    }

    /** Cars that all have the same PREFERENCE. */
    static ParkingCircle alike(int back, int cars, int preference) {
        int[] preferences = new int[cars];
        Arrays.fill(preferences, preference);
        return of(back, preferences);
    }

    /** Cars with the PREFERENCES 0, 1, 2 .., which are all LUCKY. */
    static ParkingCircle rising(int cars) {
        int[] preferences = new int[cars];
        for (int car = 0; car < cars; car++) {
            preferences[car] = car;
        }
        return of(0, preferences);
    }

    static int script(ParkingCircle x, String text) {
        feed(x, text);
        return x.runScript();
    }

    static boolean come(ParkingCircle x, String name, int preference) {
        feed(x, name);
        return x.come(preference);
    }

    static String preferences(ParkingCircle x) {
        return numbers(x, 0);
    }

    static String spots(ParkingCircle x) {
        return numbers(x, 1);
    }

    /** The numbers of all cars for a what of car(). */
    static String numbers(ParkingCircle x, int what) {
        StringBuilder row = new StringBuilder();
        for (int car = 0; car < x.setting(0); car++) {
            row.append(car == 0 ? "" : " ").append(x.car(car, what));
        }
        return row.toString();
    }

    static String settings(ParkingCircle x) {
        StringBuilder row = new StringBuilder();
        for (int what = 0; what < 10; what++) {
            row.append(what == 0 ? "" : " ").append(x.setting(what));
        }
        return row.toString();
    }

    /** The spots of all cars, found the second way. */
    static String spotsByLine(ParkingCircle x) {
        StringBuilder row = new StringBuilder();
        for (int car = 0; car < x.setting(0); car++) {
            row.append(car == 0 ? "" : " ").append(x.spotByLine(car));
        }
        return row.toString();
    }

    static String names(ParkingCircle x) {
        StringBuilder row = new StringBuilder();
        for (int car = 0; car < x.setting(0); car++) {
            row.append(car == 0 ? "" : " ").append(name(x, car));
        }
        return row.toString();
    }

    static String name(ParkingCircle x, int car) {
        StringBuilder name = new StringBuilder();
        for (int i = 0; x.letter(car, i) != 0; i++) {
            name.append((char) ('a' - 1 + x.letter(car, i)));
        }
        return name.toString();
    }

    static String accounts(ParkingCircle x) {
        StringBuilder row = new StringBuilder();
        for (int what = 0; what < 5; what++) {
            row.append(what == 0 ? "" : " ").append(x.account(what));
        }
        return row.toString();
    }

    /** All that undo(), save() and restore() deal with, in one text. */
    static String state(ParkingCircle x) {
        return names(x) + " / " + preferences(x) + " / " + x.setting(2);
    }

    static String reported(ParkingCircle x) {
        int length = x.report();
        return lastReport(x, length);
    }

    static String lastReport(ParkingCircle x, int length) {
        StringBuilder text = new StringBuilder();
        for (int i = 0; i < length; i++) {
            text.append((char) x.reportByte(i));
        }
        return text.toString();
    }

    /** How many calls can be undone, found by undoing all of them. */
    static int undoAll(ParkingCircle x) {
        int undone = 0;
        while (x.undo() != ParkingCircle.NONE) {
            undone++;
        }
        return undone;
    }

    static String error(ParkingCircle x) {
        return x.errorCode() + " at " + x.errorPosition();
    }
}
