import java.util.ArrayList;
import java.util.List;

/**
 * The document said once more, in the plainest way and without regard to LANGUAGE.md, with the face of the program.
 * What the document says is always 0 is 0 here, and the second ways are told by the first ones.
 */
final class Model {
    private record Car(String name, int preference) {
    }

    private record State(List<Car> cars, int back) {
        int size() {
            return cars.size();
        }

        int spots() {
            return cars.size() + 1;
        }

        int find(String name) {
            for (int i = 0; i < cars.size(); i++) {
                if (cars.get(i).name.equals(name)) {
                    return i;
                }
            }
            return -1;
        }

        State with(List<Car> others) {
            return new State(List.copyOf(others), back);
        }

        State preferring(int car, int preference) {
            List<Car> others = new ArrayList<>(cars);
            others.set(car, new Car(cars.get(car).name, preference));
            return with(others);
        }
    }

    private static final class Wrong extends RuntimeException {
        private static final long serialVersionUID = 1L;
        final int code;
        final int position;

        Wrong(int code, int position) {
            this.code = code;
            this.position = position;
        }
    }

    /** Ends a script. */
    private static final class Stop extends RuntimeException {
        private static final long serialVersionUID = 1L;
    }

    private static final class Refused extends RuntimeException {
        private static final long serialVersionUID = 1L;
        final int reason;

        Refused(int reason) {
            this.reason = reason;
        }
    }

    private record Token(char kind, String text, int position) {
    }

    private record Step(String word, String name, int number, List<Step> inner) {
    }

    private State now = new State(List.of(), 0);
    private State saved = null;
    private final List<State> past = new ArrayList<>();
    private final StringBuilder buffer = new StringBuilder();
    private String lastReport = "";
    private int code = 0;
    private int position = -1;
    private int reason = 0;
    private final int[] accounts = new int[5];

    // ---- texts

    public int feed(int a, int b, int c, int d, int e) {
        if (buffer.length() > 380) {
            throw new IllegalStateException();
        }
        for (int four : new int[] {a, b, c, d, e}) {
            buffer.append((char) (four >>> 24)).append((char) (four >>> 16 & 255)).append((char) (four >>> 8 & 255))
                    .append((char) (four & 255));
        }
        return buffer.length();
    }

    public int truncate(int length) {
        argument(length >= 0 && length <= buffer.length());
        buffer.setLength(length);
        return length;
    }

    public int readText() {
        try {
            now = system(tokens());
            past.clear();
            noError();
            return now.size();
        } catch (Wrong wrong) {
            throw failed(wrong);
        } finally {
            buffer.setLength(0);
        }
    }

    public int runScript() {
        List<Step> steps;
        try {
            int[] read = {0, 0};
            steps = script(tokens(), read, 0);
            noError();
        } catch (Wrong wrong) {
            throw failed(wrong);
        } finally {
            buffer.setLength(0);
        }
        push(now);
        int[] done = {0};
        try {
            doAll(steps, done);
        } catch (Stop | Refused stopped) {
            if (stopped instanceof Refused refused) {
                note(refused);
            }
        }
        return done[0];
    }

    public int errorCode() {
        return code;
    }

    public int errorPosition() {
        return position;
    }

    private void noError() {
        code = 0;
        position = -1;
    }

    private IllegalArgumentException failed(Wrong wrong) {
        code = wrong.code;
        position = wrong.position;
        return new IllegalArgumentException();
    }

    /** The kinds: w a word, n a number, e the end, x what is wrong, otherwise the sign itself. */
    private List<Token> tokens() {
        String text = buffer.toString();
        List<Token> found = new ArrayList<>();
        int i = 0;
        while (i < text.length()) {
            int from = i;
            char sign = text.charAt(i++);
            if (sign == ' ' || sign == '\n') {
                continue;
            }
            if (sign >= 'a' && sign <= 'z') {
                while (i < text.length() && text.charAt(i) >= 'a' && text.charAt(i) <= 'z') {
                    i++;
                }
                found.add(new Token(i - from > 8 ? 'x' : 'w', text.substring(from, i), from));
            } else if (sign >= '0' && sign <= '9') {
                while (i < text.length() && text.charAt(i) >= '0' && text.charAt(i) <= '9') {
                    i++;
                }
                found.add(new Token(i - from > 3 ? 'x' : 'n', text.substring(from, i), from));
            } else {
                found.add(new Token(";()".indexOf(sign) < 0 ? 'x' : sign, "", from));
            }
        }
        found.add(new Token('e', "", text.length()));
        return found;
    }

    private static Token take(List<Token> tokens, int at, char kind) {
        Token token = tokens.get(at);
        if (token.kind != kind) {
            throw new Wrong(1, token.position);
        }
        return token;
    }

    private static int number(List<Token> tokens, int at, int least, int most) {
        Token token = take(tokens, at, 'n');
        int number = Integer.parseInt(token.text);
        if (number < least || number > most) {
            throw new Wrong(2, token.position);
        }
        return number;
    }

    private static boolean isWord(Token token, String word) {
        return token.kind == 'w' && token.text.equals(word);
    }

    private static State system(List<Token> tokens) {
        if (!isWord(tokens.get(0), "park")) {
            throw new Wrong(1, tokens.get(0).position);
        }
        int told = number(tokens, 1, 0, 11);
        take(tokens, 2, ';');
        int at = 3;
        int back = 0;
        if (isWord(tokens.get(at), "back")) {
            back = number(tokens, at + 1, 0, 5);
            take(tokens, at + 2, ';');
            at += 3;
        }
        State state = new State(List.of(), back);
        while (tokens.get(at).kind != 'e' || state.size() < told) {
            Token first = tokens.get(at);
            if (!isWord(first, "car")) {
                throw new Wrong(1, first.position);
            }
            if (state.size() == told) {
                throw new Wrong(5, first.position);
            }
            Token name = take(tokens, at + 1, 'w');
            if (state.find(name.text) >= 0) {
                throw new Wrong(3, name.position);
            }
            List<Car> more = new ArrayList<>(state.cars);
            more.add(new Car(name.text, number(tokens, at + 2, 0, told)));
            take(tokens, at + 3, ';');
            state = state.with(more);
            at += 4;
        }
        return state;
    }

    /** read[0] is the place of the next token, read[1] the number of commands so far. */
    private static List<Step> script(List<Token> tokens, int[] read, int within) {
        List<Step> steps = new ArrayList<>();
        while (true) {
            Token first = tokens.get(read[0]++);
            if (first.kind == (within == 0 ? 'e' : ')')) {
                return steps;
            }
            steps.add(step(tokens, first, read, within));
            take(tokens, read[0]++, ';');
        }
    }

    private static Step step(List<Token> tokens, Token first, int[] read, int within) {
        List<String> words = List.of("prefer", "come", "swap", "go", "turn", "back", "repeat", "sort", "reverse");
        int which = first.kind == 'w' ? words.indexOf(first.text) : -1;
        if (which < 0) {
            throw new Wrong(1, first.position);
        }
        if (which == 6 && within == 2) {
            throw new Wrong(3, first.position);
        }
        if (++read[1] > 30) {
            throw new Wrong(5, first.position);
        }
        String name = which < 4 ? take(tokens, read[0]++, 'w').text : "";
        int number = 0;
        if (which < 2 || which >= 4 && which < 7) {
            number = number(tokens, read[0]++, which == 6 ? 1 : 0, which == 6 ? 20 : 999);
        }
        List<Step> inner = List.of();
        if (which == 6) {
            take(tokens, read[0]++, '(');
            inner = script(tokens, read, within + 1);
        }
        return new Step(first.text, name, number, inner);
    }

    private void doAll(List<Step> steps, int[] done) {
        for (Step step : steps) {
            if (step.word.equals("repeat")) {
                for (int i = 0; i < step.number; i++) {
                    doAll(step.inner, done);
                }
            } else {
                if (done[0] == 40) {
                    throw new Stop();
                }
                try {
                    now = after(step);
                } catch (IllegalArgumentException | IndexOutOfBoundsException thrown) {
                    throw new Stop();
                }
                done[0]++;
            }
        }
    }

    private State after(Step step) {
        int car = now.find(step.name);
        return switch (step.word) {
            case "prefer" -> preferred(car, step.number);
            case "swap" -> swapped(car);
            case "turn" -> turned(step.number);
            case "back" -> backed(step.number);
            case "come" -> came(step.name, step.number);
            case "go" -> gone(car);
            case "sort" -> sorted();
            default -> reversed();
        };
    }

    // ---- what there is

    private static int[] spotsOf(State state) {
        int[] spots = new int[state.size()];
        List<Integer> taken = new ArrayList<>();
        for (int car = 0; car < spots.length; car++) {
            spots[car] = Math.floorMod(state.cars.get(car).preference + movedOf(state, car, taken), state.spots());
            taken.add(spots[car]);
        }
        return spots;
    }

    private static int movedOf(State state, int car, List<Integer> taken) {
        List<Integer> moves = new ArrayList<>();
        moves.add(0);
        for (int by = 1; by <= state.back; by++) {
            moves.add(-by);
        }
        for (int by = 1; by <= state.size(); by++) {
            moves.add(by);
        }
        for (int move : moves) {
            if (!taken.contains(Math.floorMod(state.cars.get(car).preference + move, state.spots()))) {
                return move;
            }
        }
        throw new IllegalStateException();
    }

    private static int movedOf(State state, int car) {
        List<Integer> taken = new ArrayList<>();
        int[] spots = spotsOf(state);
        for (int i = 0; i < car; i++) {
            taken.add(spots[i]);
        }
        return movedOf(state, car, taken);
    }

    private static int takerOf(State state, int cars, int spot) {
        int[] spots = spotsOf(state);
        for (int car = 0; car < cars; car++) {
            if (spots[car] == spot) {
                return car;
            }
        }
        return -1;
    }

    private static int gapOf(State state) {
        int spot = 0;
        while (takerOf(state, state.size(), spot) >= 0) {
            spot++;
        }
        return spot;
    }

    private static int turnOf(State state) {
        return state.spots() - 1 - gapOf(state);
    }

    private static int turnedOf(State state, int number) {
        return (number + turnOf(state)) % state.spots();
    }

    private static List<Integer> breaksOf(State state) {
        List<Integer> breaks = new ArrayList<>();
        for (int k = 1; k <= state.size(); k++) {
            int limit = k;
            if (state.cars.stream().filter(car -> turnedOf(state, car.preference) < limit).count() == k) {
                breaks.add(k);
            }
        }
        return breaks;
    }

    private static int wishesOf(State state, int spot) {
        return (int) state.cars.stream().filter(car -> car.preference == spot).count();
    }

    private static int luckyOf(State state) {
        int lucky = 0;
        for (int car = 0; car < state.size(); car++) {
            lucky += movedOf(state, car) == 0 ? 1 : 0;
        }
        return lucky;
    }

    private static int settingOf(State state, int what) {
        argument(what >= 0 && what <= 9);
        int area = 0;
        int way = 0;
        for (int car = 0; car < state.size(); car++) {
            area += movedOf(state, car);
            way += Math.abs(movedOf(state, car));
        }
        int preferred = (int) state.cars.stream().map(Car::preference).distinct().count();
        int[] numbers = {state.size(), state.spots(), state.back, gapOf(state), luckyOf(state), area, way, turnOf(state),
            breaksOf(state).size(), preferred};
        return numbers[what];
    }

    private static int runOf(State state, int car) {
        int[] spots = spotsOf(state);
        int run = 0;
        int spot = spots[car];
        while (takerOf(state, car + 1, spot) >= 0) {
            run++;
            spot = (spot + state.spots() - 1) % state.spots();
        }
        return run;
    }

    private static void argument(boolean isRight) {
        if (!isRight) {
            throw new IllegalArgumentException();
        }
    }

    private static void index(boolean isRight) {
        if (!isRight) {
            throw new IndexOutOfBoundsException();
        }
    }

    private void indexOfCar(int car) {
        index(car >= 0 && car < now.size());
    }

    private void indexOfSpot(int spot) {
        index(spot >= 0 && spot < now.spots());
    }

    private void preferenceOf(int preference) {
        argument(preference >= 0 && preference < now.spots());
    }

    public int setting(int what) {
        return settingOf(now, what);
    }

    public int letter(int car, int i) {
        indexOfCar(car);
        String name = now.cars.get(car).name;
        return i < 0 || i >= name.length() ? 0 : name.charAt(i) - 'a' + 1;
    }

    public int car(int car, int what) {
        indexOfCar(car);
        argument(what >= 0 && what <= 5);
        int preference = now.cars.get(car).preference;
        int moved = movedOf(now, car);
        int[] numbers = {preference, spotsOf(now)[car], moved, moved == 0 ? 1 : 0, runOf(now, car), turnedOf(now, preference)};
        return numbers[what];
    }

    public int who(int spot) {
        indexOfSpot(spot);
        return takerOf(now, now.size(), spot);
    }

    public int wanted(int spot) {
        indexOfSpot(spot);
        return wishesOf(now, spot);
    }

    public int ranked(int k) {
        List<Car> sorted = sortedCars();
        return k < 0 || k >= sorted.size() ? -1 : now.cars.indexOf(sorted.get(k));
    }

    public int spotByLine(int car) {
        indexOfCar(car);
        return spotsOf(now)[car];
    }

    public int gap() {
        return 0;
    }

    public boolean isParking() {
        return gapOf(now) == now.size();
    }

    public int breakAt(int k) {
        List<Integer> breaks = breaksOf(now);
        return k < 0 || k >= breaks.size() ? -1 : breaks.get(k);
    }

    public int whoAfter(int cars, int spot) {
        indexOfSpot(spot);
        argument(cars >= 0 && cars <= now.size());
        return takerOf(now, cars, spot);
    }

    public int longestAfter(int cars) {
        argument(cars >= 0 && cars <= now.size());
        int longest = 0;
        for (int from = 0; from < now.spots(); from++) {
            int length = 0;
            while (takerOf(now, cars, (from + length) % now.spots()) >= 0) {
                length++;
            }
            longest = Math.max(longest, length);
        }
        return longest;
    }

    public int inWay(int cars) {
        argument(cars >= 0 && cars <= now.size());
        return cars == now.size() ? -1 : takerOf(now, cars, now.cars.get(cars).preference);
    }

    // ---- counts

    public long fibre() {
        long product = 1;
        for (int car = 0; car < now.size(); car++) {
            product *= runOf(now, car);
        }
        return product;
    }

    /** Binomial coefficients: to which places the cars of one spot come among those that are left. */
    public long arrangements() {
        long product = 1;
        int left = now.size();
        for (int spot = 0; spot < now.spots(); spot++) {
            int alike = wishesOf(now, spot);
            long ways = 1;
            for (int i = 0; i < alike; i++) {
                ways = ways * (left - i) / (i + 1);
            }
            product *= ways;
            left -= alike;
        }
        return product;
    }

    public long all() {
        return now.size() == 0 ? 1 : java.math.BigInteger.valueOf(now.spots()).pow(now.size() - 1).longValueExact();
    }

    public int inversions() {
        int[] spots = spotsOf(now);
        int pairs = 0;
        for (int first = 0; first < spots.length; first++) {
            for (int second = first + 1; second < spots.length; second++) {
                pairs += turnedOf(now, spots[first]) > turnedOf(now, spots[second]) ? 1 : 0;
            }
        }
        return pairs;
    }

    public int descents() {
        int found = 0;
        for (int car = 1; car < now.size(); car++) {
            found += now.cars.get(car).preference < now.cars.get(car - 1).preference ? 1 : 0;
        }
        return found;
    }

    // ---- the tree

    private List<Integer> codeOf() {
        List<Integer> found = new ArrayList<>();
        for (int k = 0; k + 1 < now.size(); k++) {
            found.add(Math.floorMod(now.cars.get(k + 1).preference - now.cars.get(k).preference, now.spots()));
        }
        return found;
    }

    /** Pairs of nodes, the lesser one first. */
    private List<int[]> edgesOf() {
        List<Integer> left = codeOf();
        List<Integer> nodes = new ArrayList<>();
        for (int node = 0; node < now.spots(); node++) {
            nodes.add(node);
        }
        List<int[]> edges = new ArrayList<>();
        while (nodes.size() > 2) {
            Integer least = nodes.stream().filter(node -> !left.contains(node)).findFirst().orElseThrow();
            int other = left.remove(0);
            nodes.remove(least);
            edges.add(new int[] {Math.min(least, other), Math.max(least, other)});
        }
        if (nodes.size() == 2) {
            edges.add(new int[] {nodes.get(0), nodes.get(1)});
        }
        return edges;
    }

    public int code(int k) {
        List<Integer> numbers = codeOf();
        return k < 0 || k >= numbers.size() ? -1 : numbers.get(k);
    }

    public int edge(int k) {
        List<int[]> edges = edgesOf();
        return k < 0 || k >= edges.size() ? -1 : 100 * edges.get(k)[0] + edges.get(k)[1];
    }

    private int degreeOf(int node) {
        return (int) edgesOf().stream().filter(edge -> edge[0] == node || edge[1] == node).count();
    }

    public int degree(int node) {
        indexOfSpot(node);
        return degreeOf(node);
    }

    private int[][] distances() {
        int[][] far = new int[now.spots()][now.spots()];
        for (int a = 0; a < far.length; a++) {
            for (int b = 0; b < far.length; b++) {
                far[a][b] = a == b ? 0 : 99;
            }
        }
        for (int[] edge : edgesOf()) {
            far[edge[0]][edge[1]] = 1;
            far[edge[1]][edge[0]] = 1;
        }
        for (int by = 0; by < far.length; by++) {
            for (int a = 0; a < far.length; a++) {
                for (int b = 0; b < far.length; b++) {
                    far[a][b] = Math.min(far[a][b], far[a][by] + far[by][b]);
                }
            }
        }
        return far;
    }

    public int far(int node, int other) {
        indexOfSpot(node);
        indexOfSpot(other);
        return distances()[node][other];
    }

    public int wide() {
        int greatest = 0;
        for (int[] row : distances()) {
            for (int far : row) {
                greatest = Math.max(greatest, far);
            }
        }
        return greatest;
    }

    public int leaves() {
        int found = 0;
        for (int node = 0; node < now.spots(); node++) {
            found += degreeOf(node) == 1 ? 1 : 0;
        }
        return found;
    }

    public int codeGap() {
        return 0;
    }

    // ---- means and shares

    public double meanWay() {
        return now.size() == 0 ? 0.0 : (double) setting(6) / now.size();
    }

    public float luckyShare() {
        return now.size() == 0 ? 0.0f : (float) setting(4) / (float) now.size();
    }

    // ---- what would be

    public int spotIf(int car, int preference) {
        indexOfCar(car);
        preferenceOf(preference);
        return spotsOf(now.preferring(car, preference))[car];
    }

    public int settingIf(int car, int preference, int what) {
        indexOfCar(car);
        preferenceOf(preference);
        return settingOf(now.preferring(car, preference), what);
    }

    public int bestFor(int car) {
        indexOfCar(car);
        int best = 0;
        for (int preference = 1; preference < now.spots(); preference++) {
            if (luckyOf(now.preferring(car, preference)) > luckyOf(now.preferring(car, best))) {
                best = preference;
            }
        }
        return best;
    }

    public int latest(int car) {
        indexOfCar(car);
        for (int place = now.size() - 1; place >= 0; place--) {
            List<Car> others = new ArrayList<>(now.cars);
            others.add(place, others.remove(car));
            if (movedOf(now.with(others), place) == 0) {
                return place;
            }
        }
        return -1;
    }

    private int wayOf(int back) {
        return settingOf(new State(now.cars, back), 6);
    }

    public int wayBy(int back) {
        argument(back >= 0 && back <= 5);
        return wayOf(back);
    }

    public int bestBack() {
        int best = 0;
        for (int back = 1; back <= 5; back++) {
            best = wayOf(back) < wayOf(best) ? back : best;
        }
        return best;
    }

    // ---- changes

    private State preferred(int car, int preference) {
        indexOfCar(car);
        preferenceOf(preference);
        accounts[0]++;
        return now.preferring(car, preference);
    }

    private State swapped(int car) {
        indexOfCar(car);
        if (car == now.size() - 1) {
            throw new Refused(3);
        }
        accounts[0]++;
        List<Car> others = new ArrayList<>(now.cars);
        others.add(car, others.remove(car + 1));
        return now.with(others);
    }

    private State turned(int by) {
        argument(by >= 0 && by <= 99);
        accounts[0]++;
        List<Car> others = new ArrayList<>();
        for (Car car : now.cars) {
            others.add(new Car(car.name, (car.preference + by) % now.spots()));
        }
        return now.with(others);
    }

    private State backed(int back) {
        argument(back >= 0 && back <= 5);
        accounts[0]++;
        return new State(now.cars, back);
    }

    private State came(String name, int preference) {
        argument(preference >= 0 && preference <= now.size() + 1);
        if (now.size() == 11) {
            throw new Refused(1);
        }
        if (!name.matches("[a-z]{1,8}") || now.find(name) >= 0) {
            throw new Refused(2);
        }
        accounts[0]++;
        accounts[2]++;
        List<Car> others = new ArrayList<>(now.cars);
        others.add(new Car(name, preference));
        return now.with(others);
    }

    private State gone(int car) {
        indexOfCar(car);
        List<Car> others = new ArrayList<>(now.cars);
        others.remove(car);
        if (wishesOf(now.with(others), now.size()) > 0) {
            throw new Refused(4);
        }
        accounts[0]++;
        accounts[3]++;
        return now.with(others);
    }

    private List<Car> sortedCars() {
        List<Car> others = new ArrayList<>(now.cars);
        others.sort((one, other) -> Integer.compare(one.preference, other.preference));
        return others;
    }

    private State sorted() {
        accounts[0]++;
        return now.with(sortedCars());
    }

    private State reversed() {
        accounts[0]++;
        List<Car> others = new ArrayList<>(now.cars);
        java.util.Collections.reverse(others);
        return now.with(others);
    }

    private void push(State state) {
        past.add(state);
        if (past.size() > 6) {
            past.remove(0);
        }
    }

    private void change(State next) {
        push(now);
        now = next;
    }

    private void note(Refused refused) {
        accounts[1]++;
        reason = refused.reason;
    }

    public int prefer(int car, int preference) {
        State next = preferred(car, preference);
        int before = now.cars.get(car).preference;
        change(next);
        return before;
    }

    public boolean swap(int car) {
        try {
            change(swapped(car));
            return true;
        } catch (Refused refused) {
            note(refused);
            return false;
        }
    }

    public int turn(int by) {
        change(turned(by));
        return turnOf(now);
    }

    public int setBack(int back) {
        int before = now.back;
        change(backed(back));
        return before;
    }

    public boolean come(int preference) {
        try {
            change(came(buffer.toString(), preference));
            buffer.setLength(0);
            return true;
        } catch (Refused refused) {
            note(refused);
            return false;
        }
    }

    public boolean go(int car) {
        try {
            change(gone(car));
            return true;
        } catch (Refused refused) {
            note(refused);
            return false;
        }
    }

    public int sort() {
        State before = now;
        change(sorted());
        int moved = 0;
        for (int car = 0; car < now.size(); car++) {
            moved += before.cars.get(car).equals(now.cars.get(car)) ? 0 : 1;
        }
        return moved;
    }

    public int reverse() {
        change(reversed());
        return luckyOf(now);
    }

    // ---- accounts, undo, reports, saving

    public int refusal() {
        return reason;
    }

    public int account(int what) {
        argument(what >= 0 && what < 5);
        return accounts[what];
    }

    public int undo() {
        if (past.isEmpty()) {
            return -1;
        }
        now = past.remove(past.size() - 1);
        accounts[4]++;
        return past.size();
    }

    public int report() {
        List<String> parts = new ArrayList<>();
        for (int spot = 0; spot < now.spots(); spot++) {
            int car = takerOf(now, now.size(), spot);
            parts.add(car < 0 ? "." : now.cars.get(car).name + (movedOf(now, car) == 0 ? "!" : ""));
        }
        lastReport = String.join(" ", parts) + "\n";
        return lastReport.length();
    }

    public int reportByte(int i) {
        index(i >= 0 && i < lastReport.length());
        return lastReport.charAt(i);
    }

    public int save() {
        saved = now;
        return now.size();
    }

    public int restore() {
        if (saved == null) {
            throw new IllegalStateException();
        }
        now = saved;
        past.clear();
        return now.size();
    }
}
