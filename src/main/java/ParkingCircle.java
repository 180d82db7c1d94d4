import java.util.Arrays;

/**
 * Cars that park on a circle of one spot more than there are cars, as ../shared/DOC.md says.
 * All rows are made when the object is made and used again by every call, so that calls make nothing new.
 */
public final class ParkingCircle {
    public static final int NONE = -1;

    private static final int MOST_CARS = 11;
    private static final int MOST_SPOTS = MOST_CARS + 1;
    private static final int MOST_BACK = 5;
    private static final int MOST_TURN = 99;
    private static final int MOST_KEPT = 6;

    private static final int MOST_LETTERS = 8;
    private static final int MOST_DIGITS = 3;
    private static final int MOST_NUMBER = 999;
    private static final long NO_NAME = 0L;
    private static final int LETTER_BITS = 5;
    private static final int LETTER_MASK = 31;

    private static final int MOST_COMMANDS = 30;
    private static final int MOST_DONE = 40;
    private static final int MOST_REPEATS = 20;
    private static final int MOST_DEPTH = 2;

    private static final int BUFFER_BYTES = 400;
    private static final int FED_BYTES = 20;
    /** A spot needs at most a NAME, its exclamation mark and what parts it from the next one. */
    private static final int REPORT_BYTES = MOST_SPOTS * (MOST_LETTERS + 2);

    private static final int WRONG_GRAMMAR = 1;
    private static final int WRONG_RANGE = 2;
    private static final int WRONG_REPETITION = 3;
    private static final int WRONG_NUMBER_OF = 5;

    private static final int REFUSED_FULL = 1;
    private static final int REFUSED_NAME = 2;
    private static final int REFUSED_LAST = 3;
    private static final int REFUSED_WANTED = 4;

    private static final int LAST_SETTING = 9;
    private static final int ACTS = 0;
    private static final int REFUSALS = 1;
    private static final int CAME = 2;
    private static final int WENT = 3;
    private static final int UNDONE = 4;
    private static final int NUMBER_OF_ACCOUNTS = 5;

    private final Tokens tokens = new Tokens();
    private final Bytes buffer = tokens.text();
    private final Bytes written = new Bytes(REPORT_BYTES);
    private final Script script = new Script();
    private final Cars cars = new Cars();
    /** A row to try things on; no call leaves in it what another one needs. */
    private final Cars trial = new Cars();
    private final Cars saved = new Cars();
    private final Cars noted = new Cars();
    private final Cars[] kept = new Cars[MOST_KEPT];
    private final Parking circle = new Parking();
    private final Parking line = new Parking();
    private final Tree tree = new Tree();
    private final int[] accounts = new int[NUMBER_OF_ACCOUNTS];
    private int keptCount = 0;
    private boolean isSaved = false;
    private int commandsDone = 0;
    private int latestRefusal = 0;
    private int latestErrorCode = 0;
    private int latestErrorPosition = NONE;

    public ParkingCircle() {
        for (int i = 0; i < MOST_KEPT; i++) {
            kept[i] = new Cars();
        }
    }

    // ---- texts

    public int feed(int a, int b, int c, int d, int e) throws IllegalStateException {
        if (buffer.length() + FED_BYTES > BUFFER_BYTES) {
            throw new IllegalStateException("the buffer would exceed 400 bytes");
        }
        buffer.addFour(a);
        buffer.addFour(b);
        buffer.addFour(c);
        buffer.addFour(d);
        buffer.addFour(e);
        return buffer.length();
    }

    public int truncate(int length) throws IllegalArgumentException {
        if (length < 0 || length > buffer.length()) {
            throw new IllegalArgumentException("no such length of the buffer");
        }
        buffer.shorten(length);
        return length;
    }

    public int readText() throws IllegalArgumentException {
        tokens.begin();
        boolean isRead = readSystem(trial);
        endReading();
        if (!isRead) {
            throw new IllegalArgumentException("the text is no system");
        }
        cars.copyFrom(trial);
        keptCount = 0;
        return cars.count();
    }

    public int runScript() throws IllegalArgumentException {
        tokens.begin();
        boolean isRead = script.read(tokens);
        endReading();
        if (!isRead) {
            throw new IllegalArgumentException("the text is no script");
        }
        note();
        commandsDone = 0;
        doCommands(0, script.count(), 0);
        keepNoted();
        return commandsDone;
    }

    public int errorCode() {
        return latestErrorCode;
    }

    public int errorPosition() {
        return latestErrorPosition;
    }

    private void endReading() {
        latestErrorCode = tokens.wrongCode();
        latestErrorPosition = tokens.wrongPosition();
        buffer.shorten(0);
    }

    private boolean readSystem(Cars row) {
        row.empty();
        if (!tokens.readWord("park") || !tokens.readNumber(0, MOST_CARS)) {
            return false;
        }
        int told = tokens.number();
        if (!tokens.readMark(';')) {
            return false;
        }
        tokens.advance();
        if (tokens.isWord("back") && !readBack(row)) {
            return false;
        }
        for (int car = 0; car < told; car++) {
            if (!readCar(row, told)) {
                return false;
            }
        }
        if (tokens.isWord("car")) {
            return tokens.fail(WRONG_NUMBER_OF);
        }
        return tokens.isEnd() || tokens.fail(WRONG_GRAMMAR);
    }

    /** Begins, as readCar() does, at the first word, which was read, and ends with the token behind. */
    private boolean readBack(Cars row) {
        if (!tokens.readNumber(0, MOST_BACK)) {
            return false;
        }
        row.changeBack(tokens.number());
        if (!tokens.readMark(';')) {
            return false;
        }
        tokens.advance();
        return true;
    }

    private boolean readCar(Cars row, int told) {
        if (!tokens.isWord("car")) {
            return tokens.fail(WRONG_GRAMMAR);
        }
        if (!tokens.readName()) {
            return false;
        }
        long name = tokens.word();
        if (row.carNamed(name) != NONE) {
            return tokens.fail(WRONG_REPETITION);
        }
        if (!tokens.readNumber(0, told)) {
            return false;
        }
        row.add(name, tokens.number());
        if (!tokens.readMark(';')) {
            return false;
        }
        tokens.advance();
        return true;
    }

    // ---- what there is

    public int setting(int what) throws IllegalArgumentException {
        needSetting(what);
        return settingOf(cars, what);
    }

    public int letter(int car, int i) throws IndexOutOfBoundsException {
        needCar(car);
        return letterOf(cars.nameOf(car), i);
    }

    public int car(int car, int what) throws IndexOutOfBoundsException, IllegalArgumentException {
        needCar(car);
        Parking parking = parked();
        switch (what) {
            case 0:
                return cars.preferenceOf(car);
            case 1:
                return parking.spotOf(car);
            case 2:
                return parking.movedOf(car);
            case 3:
                return parking.isLucky(car) ? 1 : 0;
            case 4:
                return parking.runOf(car);
            case 5:
                return parking.turnedPreferenceOf(car);
            default:
                throw new IllegalArgumentException("a car has no such number");
        }
    }

    public int who(int spot) throws IndexOutOfBoundsException {
        needSpot(spot);
        return parked().takerOf(spot);
    }

    public int wanted(int spot) throws IndexOutOfBoundsException {
        needSpot(spot);
        return cars.wishesFor(spot);
    }

    public int ranked(int k) {
        for (int car = 0; car < cars.count(); car++) {
            if (cars.rankOf(car) == k) {
                return car;
            }
        }
        return NONE;
    }

    public int spotByLine(int car) throws IndexOutOfBoundsException {
        needCar(car);
        line.comeInLine(parked());
        return spotInLine(car);
    }

    public int gap() {
        line.comeInLine(parked());
        int differences = circle.area() == circle.areaByPreferences() ? 0 : 1;
        for (int car = 0; car < cars.count(); car++) {
            if (spotInLine(car) != circle.spotOf(car)) {
                differences++;
            }
        }
        return differences;
    }

    public boolean isParking() {
        return parked().turnNumber() == 0;
    }

    public int breakAt(int k) {
        Parking parking = parked();
        int found = 0;
        for (int number = 1; number <= cars.count(); number++) {
            if (parking.isBreak(number)) {
                if (found == k) {
                    return number;
                }
                found++;
            }
        }
        return NONE;
    }

    private Parking parked() {
        circle.comeRound(cars, cars.count());
        return circle;
    }

    /** The cars have come on the circle and in line before. */
    private int spotInLine(int car) {
        int place = line.spotOf(car);
        return place == NONE ? NONE : wrapped(place - circle.turnNumber(), cars.spots());
    }

    private int settingOf(Cars row, int what) {
        circle.comeRound(row, row.count());
        switch (what) {
            case 0:
                return row.count();
            case 1:
                return row.spots();
            case 2:
                return row.back();
            case 3:
                return circle.freeSpot();
            case 4:
                return circle.luckyCars();
            case 5:
                return circle.area();
            case 6:
                return circle.wayOfAll();
            case 7:
                return circle.turnNumber();
            case 8:
                return circle.breaks();
            default:
                return row.preferredSpots();
        }
    }

    private void needSetting(int what) {
        if (what < 0 || what > LAST_SETTING) {
            throw new IllegalArgumentException("there is no such setting");
        }
    }

    private void needCar(int car) {
        if (!cars.hasCar(car)) {
            throw new IndexOutOfBoundsException("there is no such car");
        }
    }

    private void needSpot(int spot) {
        if (!cars.hasSpot(spot)) {
            throw new IndexOutOfBoundsException("there is no such spot");
        }
    }

    private void needPreference(int preference) {
        if (!cars.hasSpot(preference)) {
            throw new IllegalArgumentException("a preference is a spot");
        }
    }

    private void needBack(int back) {
        if (!isBack(back)) {
            throw new IllegalArgumentException("back is 0 to 5");
        }
    }

    private static boolean isBack(int back) {
        return back >= 0 && back <= MOST_BACK;
    }

    // ---- once some cars have come

    public int whoAfter(int coming, int spot) throws IndexOutOfBoundsException, IllegalArgumentException {
        needSpot(spot);
        return parkedAfter(coming).takerOf(spot);
    }

    public int longestAfter(int coming) throws IllegalArgumentException {
        return parkedAfter(coming).longestRow();
    }

    public int inWay(int coming) throws IllegalArgumentException {
        Parking parking = parkedAfter(coming);
        return cars.hasCar(coming) ? parking.takerOf(cars.preferenceOf(coming)) : NONE;
    }

    private Parking parkedAfter(int coming) {
        if (coming < 0 || coming > cars.count()) {
            throw new IllegalArgumentException("so many cars do not come");
        }
        circle.comeRound(cars, coming);
        return circle;
    }

    // ---- counts

    public long fibre() {
        Parking parking = parked();
        long rows = 1L;
        for (int car = 0; car < cars.count(); car++) {
            rows *= parking.runOf(car);
        }
        return rows;
    }

    public long arrangements() {
        long rows = factorial(cars.count());
        for (int spot = 0; spot < cars.spots(); spot++) {
            long alike = factorial(cars.wishesFor(spot));
            if (alike > 1L) {
                rows /= alike;
            }
        }
        return rows;
    }

    public long all() {
        long rows = 1L;
        for (int i = 1; i < cars.count(); i++) {
            rows *= cars.spots();
        }
        return rows;
    }

    public int inversions() {
        Parking parking = parked();
        int pairs = 0;
        for (int second = 1; second < cars.count(); second++) {
            for (int first = 0; first < second; first++) {
                if (parking.turnedSpotOf(first) > parking.turnedSpotOf(second)) {
                    pairs++;
                }
            }
        }
        return pairs;
    }

    public int descents() {
        int found = 0;
        for (int car = 1; car < cars.count(); car++) {
            if (cars.preferenceOf(car) < cars.preferenceOf(car - 1)) {
                found++;
            }
        }
        return found;
    }

    private static long factorial(int n) {
        long product = 1L;
        for (int i = 2; i <= n; i++) {
            product *= i;
        }
        return product;
    }

    // ---- the tree

    public int code(int k) {
        return grown().numberAt(k);
    }

    public int edge(int k) {
        return grown().edgeAt(k);
    }

    public int degree(int node) throws IndexOutOfBoundsException {
        needNode(node);
        return grown().edgesAt(node);
    }

    public int far(int node, int other) throws IndexOutOfBoundsException {
        needNode(node);
        needNode(other);
        return measured().distance(node, other);
    }

    public int wide() {
        return measured().greatestDistance();
    }

    public int leaves() {
        return grown().nodesWithOneEdge();
    }

    public int codeGap() {
        return grown().differencesOfCodes();
    }

    private Tree grown() {
        tree.grow(cars);
        return tree;
    }

    private Tree measured() {
        tree.grow(cars);
        tree.measure();
        return tree;
    }

    /** The tree has just as many nodes as there are spots. */
    private void needNode(int node) {
        if (!cars.hasSpot(node)) {
            throw new IndexOutOfBoundsException("there is no such node");
        }
    }

    // ---- means and shares

    public double meanWay() {
        int count = cars.count();
        return count == 0 ? 0.0 : (double) parked().wayOfAll() / (double) count;
    }

    public float luckyShare() {
        int count = cars.count();
        return count == 0 ? 0.0f : (float) parked().luckyCars() / (float) count;
    }

    // ---- what would be; nothing changes

    public int spotIf(int car, int preference) throws IndexOutOfBoundsException, IllegalArgumentException {
        needCar(car);
        needPreference(preference);
        return parkedIf(car, preference).spotOf(car);
    }

    public int settingIf(int car, int preference, int what)
            throws IndexOutOfBoundsException, IllegalArgumentException {
        needCar(car);
        needPreference(preference);
        needSetting(what);
        trial.copyFrom(cars);
        trial.changePreference(car, preference);
        return settingOf(trial, what);
    }

    public int bestFor(int car) throws IndexOutOfBoundsException {
        needCar(car);
        int best = NONE;
        int most = NONE;
        for (int preference = 0; preference < cars.spots(); preference++) {
            int lucky = parkedIf(car, preference).luckyCars();
            if (lucky > most) {
                most = lucky;
                best = preference;
            }
        }
        return best;
    }

    /**
     * The others take the same spots however late the car comes; so, if it came last, the car that then has the
     * spot that it prefers (it itself, if none of the others has) stands at the last place that is early enough.
     */
    public int latest(int car) throws IndexOutOfBoundsException {
        needCar(car);
        trial.copyFrom(cars);
        for (int place = car; place + 1 < cars.count(); place++) {
            trial.exchange(place, place + 1);
        }
        circle.comeRound(trial, trial.count());
        return circle.takerOf(cars.preferenceOf(car));
    }

    public int wayBy(int back) throws IllegalArgumentException {
        needBack(back);
        return wayWith(back);
    }

    public int bestBack() {
        int best = 0;
        int least = wayWith(0);
        for (int back = 1; back <= MOST_BACK; back++) {
            int way = wayWith(back);
            if (way < least) {
                least = way;
                best = back;
            }
        }
        return best;
    }

    private Parking parkedIf(int car, int preference) {
        trial.copyFrom(cars);
        trial.changePreference(car, preference);
        circle.comeRound(trial, trial.count());
        return circle;
    }

    private int wayWith(int back) {
        trial.copyFrom(cars);
        trial.changeBack(back);
        circle.comeRound(trial, trial.count());
        return circle.wayOfAll();
    }

    // ---- changes

    public int prefer(int car, int preference) throws IndexOutOfBoundsException, IllegalArgumentException {
        needCar(car);
        needPreference(preference);
        int before = cars.preferenceOf(car);
        note();
        doPrefer(car, preference);
        keepNoted();
        return before;
    }

    public boolean swap(int car) throws IndexOutOfBoundsException {
        needCar(car);
        note();
        return keepNotedIf(doSwap(car));
    }

    public int turn(int by) throws IllegalArgumentException {
        if (!isTurn(by)) {
            throw new IllegalArgumentException("the circle is turned by 0 to 99");
        }
        note();
        doTurn(by);
        keepNoted();
        return parked().turnNumber();
    }

    public int setBack(int back) throws IllegalArgumentException {
        needBack(back);
        int before = cars.back();
        note();
        doSetBack(back);
        keepNoted();
        return before;
    }

    public boolean come(int preference) throws IllegalArgumentException {
        if (!canComeTo(preference)) {
            throw new IllegalArgumentException("a preference is a spot that there is then");
        }
        note();
        boolean comes = keepNotedIf(doCome(buffer.wholeName(), preference));
        if (comes) {
            buffer.shorten(0);
        }
        return comes;
    }

    public boolean go(int car) throws IndexOutOfBoundsException {
        needCar(car);
        note();
        return keepNotedIf(doGo(car));
    }

    public int sort() {
        note();
        int renumbered = doSort();
        keepNoted();
        return renumbered;
    }

    public int reverse() {
        note();
        doReverse();
        keepNoted();
        return parked().luckyCars();
    }

    private boolean doPrefer(int car, int preference) {
        accounts[ACTS]++;
        cars.changePreference(car, preference);
        return true;
    }

    private boolean doSwap(int car) {
        if (!cars.hasCar(car + 1)) {
            return refuse(REFUSED_LAST);
        }
        accounts[ACTS]++;
        cars.exchange(car, car + 1);
        return true;
    }

    private boolean doTurn(int by) {
        accounts[ACTS]++;
        cars.turnBy(by);
        return true;
    }

    private boolean doSetBack(int back) {
        accounts[ACTS]++;
        cars.changeBack(back);
        return true;
    }

    private boolean doCome(long name, int preference) {
        if (cars.count() >= MOST_CARS) {
            return refuse(REFUSED_FULL);
        }
        if (name == NO_NAME || cars.carNamed(name) != NONE) {
            return refuse(REFUSED_NAME);
        }
        accounts[ACTS]++;
        cars.add(name, preference);
        accounts[CAME]++;
        return true;
    }

    private boolean doGo(int car) {
        int last = cars.spots() - 1;
        int own = cars.preferenceOf(car) == last ? 1 : 0;
        if (cars.wishesFor(last) > own) {
            return refuse(REFUSED_WANTED);
        }
        accounts[ACTS]++;
        cars.remove(car);
        accounts[WENT]++;
        return true;
    }

    private int doSort() {
        accounts[ACTS]++;
        trial.copyFrom(cars);
        return cars.takeSorted(trial);
    }

    private boolean doReverse() {
        accounts[ACTS]++;
        int count = cars.count();
        for (int car = 0; car < count - 1 - car; car++) {
            cars.exchange(car, count - 1 - car);
        }
        return true;
    }

    private static boolean isTurn(int by) {
        return by >= 0 && by <= MOST_TURN;
    }

    /** One spot more is there then than now, as one car more is. */
    private boolean canComeTo(int preference) {
        return preference >= 0 && preference <= cars.spots();
    }

    private boolean refuse(int reason) {
        latestRefusal = reason;
        accounts[REFUSALS]++;
        return false;
    }

    // ---- scripts

    /** Does the commands from one index to ahead of another; answers whether the script goes on behind them. */
    private boolean doCommands(int from, int to, int depth) {
        int index = from;
        for (int steps = 0; steps < MOST_COMMANDS && index < to; steps++) {
            if (script.commandAt(index) == Command.REPEAT) {
                if (!doRepeat(index, depth)) {
                    return false;
                }
            } else {
                if (commandsDone >= MOST_DONE || !doCommand(index)) {
                    return false;
                }
                commandsDone++;
            }
            index = script.behind(index);
        }
        return true;
    }

    private boolean doRepeat(int index, int depth) {
        if (depth >= MOST_DEPTH) {
            return false;
        }
        for (int times = script.numberAt(index); times > 0; times--) {
            if (!doCommands(index + 1, script.behind(index), depth + 1)) {
                return false;
            }
        }
        return true;
    }

    private boolean doCommand(int index) {
        Command command = script.commandAt(index);
        if (command == null) {
            return false;
        }
        int number = script.numberAt(index);
        int car = cars.carNamed(script.nameAt(index));
        switch (command) {
            case PREFER:
                return car != NONE && cars.hasSpot(number) && doPrefer(car, number);
            case SWAP:
                return car != NONE && doSwap(car);
            case TURN:
                return isTurn(number) && doTurn(number);
            case BACK:
                return isBack(number) && doSetBack(number);
            case COME:
                return canComeTo(number) && doCome(script.nameAt(index), number);
            case GO:
                return car != NONE && doGo(car);
            case SORT:
                return doSort() >= 0;
            case REVERSE:
                return doReverse();
            default:
                return false;
        }
    }

    // ---- accounts, undo, reports, saving

    public int refusal() {
        return latestRefusal;
    }

    public int account(int what) throws IllegalArgumentException {
        if (what < 0 || what >= NUMBER_OF_ACCOUNTS) {
            throw new IllegalArgumentException("there is no such account");
        }
        return accounts[what];
    }

    public int undo() {
        if (keptCount < 1 || keptCount > MOST_KEPT) {
            return NONE;
        }
        keptCount--;
        cars.copyFrom(kept[keptCount]);
        accounts[UNDONE]++;
        return keptCount;
    }

    public int report() {
        Parking parking = parked();
        written.shorten(0);
        for (int spot = 0; spot < cars.spots(); spot++) {
            if (spot > 0) {
                written.add(' ');
            }
            int car = parking.takerOf(spot);
            if (car == NONE) {
                written.add('.');
            } else {
                written.addName(cars.nameOf(car));
                if (parking.isLucky(car)) {
                    written.add('!');
                }
            }
        }
        written.add('\n');
        return written.length();
    }

    public int reportByte(int i) throws IndexOutOfBoundsException {
        if (i < 0 || i >= written.length()) {
            throw new IndexOutOfBoundsException("the report has no such byte");
        }
        return written.at(i);
    }

    public int save() {
        saved.copyFrom(cars);
        isSaved = true;
        return cars.count();
    }

    public int restore() throws IllegalStateException {
        if (!isSaved) {
            throw new IllegalStateException("nothing was saved");
        }
        cars.copyFrom(saved);
        keptCount = 0;
        return cars.count();
    }

    // Ahead of a change the cars are noted; what is noted is kept for undo() only if the change is done then, as
    // a change that is refused must not push out the oldest one that is kept.

    private void note() {
        noted.copyFrom(cars);
    }

    private void keepNoted() {
        if (keptCount >= MOST_KEPT) {
            Cars oldest = kept[0];
            for (int i = 1; i < MOST_KEPT; i++) {
                kept[i - 1] = kept[i];
            }
            kept[MOST_KEPT - 1] = oldest;
            keptCount = MOST_KEPT - 1;
        }
        if (keptCount >= 0 && keptCount < MOST_KEPT) {
            kept[keptCount].copyFrom(noted);
            keptCount++;
        }
    }

    private boolean keepNotedIf(boolean isDone) {
        if (isDone) {
            keepNoted();
        }
        return isDone;
    }

    // ---- what all parts use

    private static int wrapped(int number, int size) {
        return size < 1 ? NONE : Math.floorMod(number, size);
    }

    // A word is held as one number, its first letter highest; so a word without letters is 0.

    private static long withLetter(long word, int i, int letter) {
        return word | ((long) letter << (LETTER_BITS * (MOST_LETTERS - 1 - i)));
    }

    private static int letterOf(long word, int i) {
        if (i < 0 || i >= MOST_LETTERS) {
            return 0;
        }
        return (int) (word >> (LETTER_BITS * (MOST_LETTERS - 1 - i))) & LETTER_MASK;
    }

    private static long wordOf(String text) {
        long word = NO_NAME;
        for (int i = 0; i < text.length() && i < MOST_LETTERS; i++) {
            word = withLetter(word, i, text.charAt(i) - 'a' + 1);
        }
        return word;
    }

    private static boolean isLetter(int sign) {
        return sign >= 'a' && sign <= 'z';
    }

    private static boolean isDigit(int sign) {
        return sign >= '0' && sign <= '9';
    }

    /** The cars by number with what they bring along, and BACK: all that is undone, saved and restored. */
    private static final class Cars {
        private final long[] names = new long[MOST_CARS];
        private final int[] preferences = new int[MOST_CARS];
        private int count = 0;
        private int back = 0;

        int count() {
            return count;
        }

        int spots() {
            return count + 1;
        }

        int back() {
            return back;
        }

        boolean hasCar(int car) {
            return car >= 0 && car < count && car < MOST_CARS;
        }

        boolean hasSpot(int spot) {
            return spot >= 0 && spot <= count;
        }

        long nameOf(int car) {
            return hasCar(car) ? names[car] : NO_NAME;
        }

        int preferenceOf(int car) {
            return hasCar(car) ? preferences[car] : NONE;
        }

        int carNamed(long name) {
            for (int car = 0; car < count; car++) {
                if (nameOf(car) == name) {
                    return car;
                }
            }
            return NONE;
        }

        int wishesFor(int spot) {
            int found = 0;
            for (int car = 0; car < count; car++) {
                if (preferenceOf(car) == spot) {
                    found++;
                }
            }
            return found;
        }

        int preferredSpots() {
            int found = 0;
            for (int spot = 0; spot <= count; spot++) {
                if (wishesFor(spot) > 0) {
                    found++;
                }
            }
            return found;
        }

        /** The number that a car has once the cars are sorted. */
        int rankOf(int car) {
            if (!hasCar(car)) {
                return NONE;
            }
            int preference = preferences[car];
            int rank = 0;
            for (int other = 0; other < count && other < MOST_CARS; other++) {
                if (preferences[other] < preference || preferences[other] == preference && other < car) {
                    rank++;
                }
            }
            return rank;
        }

        void empty() {
            count = 0;
            back = 0;
        }

        void copyFrom(Cars row) {
            System.arraycopy(row.names, 0, names, 0, MOST_CARS);
            System.arraycopy(row.preferences, 0, preferences, 0, MOST_CARS);
            count = row.count;
            back = row.back;
        }

        void changeBack(int to) {
            back = to;
        }

        void changePreference(int car, int to) {
            if (hasCar(car)) {
                preferences[car] = to;
            }
        }

        void add(long name, int preference) {
            if (count < MOST_CARS) {
                count++;
                put(count - 1, name, preference);
            }
        }

        private void put(int car, long name, int preference) {
            if (hasCar(car)) {
                names[car] = name;
                preferences[car] = preference;
            }
        }

        void remove(int car) {
            for (int behind = car + 1; behind < count; behind++) {
                exchange(behind - 1, behind);
            }
            if (hasCar(car)) {
                count--;
            }
        }

        void exchange(int car, int other) {
            if (hasCar(car) && hasCar(other)) {
                long name = names[car];
                int preference = preferences[car];
                names[car] = names[other];
                preferences[car] = preferences[other];
                names[other] = name;
                preferences[other] = preference;
            }
        }

        void turnBy(int by) {
            for (int car = 0; car < count; car++) {
                changePreference(car, wrapped(preferenceOf(car) + by, count + 1));
            }
        }

        /** Takes the cars of another row as their preferences rise; answers how many have another number here. */
        int takeSorted(Cars row) {
            copyFrom(row);
            int moved = 0;
            for (int car = 0; car < count; car++) {
                int rank = row.rankOf(car);
                put(rank, row.nameOf(car), row.preferenceOf(car));
                if (rank != car) {
                    moved++;
                }
            }
            return moved;
        }
    }

    /** What comes of it when cars come one behind the other, round a circle or on a line. */
    private static final class Parking {
        private final int[] preferences = new int[MOST_CARS];
        private final int[] spotsOfCars = new int[MOST_CARS];
        private final int[] moved = new int[MOST_CARS];
        private final int[] takers = new int[MOST_SPOTS];
        private int size = 0;
        private int back = 0;
        private boolean isRound = true;
        private int arrived = 0;
        private int free = NONE;

        void comeRound(Cars row, int coming) {
            open(row.spots(), row.back(), true);
            for (int car = 0; car < coming; car++) {
                bring(row.preferenceOf(car));
            }
            findFree();
        }

        /** The second way: the cars of a circle come with their TURNED PREFERENCES. */
        void comeInLine(Parking round) {
            open(round.arrived, round.back, false);
            for (int car = 0; car < round.arrived; car++) {
                bring(round.turnedPreferenceOf(car));
            }
            findFree();
        }

        private void open(int spots, int lookedBack, boolean round) {
            size = spots < MOST_SPOTS ? spots : MOST_SPOTS;
            back = lookedBack;
            isRound = round;
            arrived = 0;
            Arrays.fill(takers, NONE);
        }

        private void bring(int preference) {
            if (arrived >= MOST_CARS) {
                return;
            }
            int by = moveFrom(preference);
            int spot = spotAt(preference + by);
            preferences[arrived] = preference;
            moved[arrived] = by;
            spotsOfCars[arrived] = NONE;
            if (isFree(spot)) {
                spotsOfCars[arrived] = spot;
                takers[spot] = arrived;
            }
            arrived++;
        }

        private int moveFrom(int preference) {
            if (isFree(preference)) {
                return 0;
            }
            for (int by = 1; by <= back; by++) {
                if (isFree(spotAt(preference - by))) {
                    return -by;
                }
            }
            for (int by = 1; by < size; by++) {
                if (isFree(spotAt(preference + by))) {
                    return by;
                }
            }
            return 0;
        }

        private int spotAt(int number) {
            return isRound ? wrapped(number, size) : number;
        }

        private boolean isFree(int spot) {
            return isSpot(spot) && takers[spot] == NONE;
        }

        private boolean isSpot(int spot) {
            return spot >= 0 && spot < size && spot < MOST_SPOTS;
        }

        private boolean hasCome(int car) {
            return car >= 0 && car < arrived && car < MOST_CARS;
        }

        private void findFree() {
            free = NONE;
            for (int spot = 0; spot < size && free == NONE; spot++) {
                if (isFree(spot)) {
                    free = spot;
                }
            }
        }

        /** Once all cars have come round a circle this is the GAP. */
        int freeSpot() {
            return free;
        }

        int turnNumber() {
            return size - 1 - free;
        }

        int takerOf(int spot) {
            return isSpot(spot) ? takers[spot] : NONE;
        }

        int spotOf(int car) {
            return hasCome(car) ? spotsOfCars[car] : NONE;
        }

        int turnedSpotOf(int car) {
            return wrapped(spotOf(car) + turnNumber(), size);
        }

        int turnedPreferenceOf(int car) {
            return hasCome(car) ? wrapped(preferences[car] + turnNumber(), size) : NONE;
        }

        int movedOf(int car) {
            return hasCome(car) ? moved[car] : 0;
        }

        boolean isLucky(int car) {
            return hasCome(car) && spotsOfCars[car] == preferences[car];
        }

        int runOf(int car) {
            int spot = spotOf(car);
            int run = 0;
            while (run < size && isTakenBy(wrapped(spot - run, size), car)) {
                run++;
            }
            return run;
        }

        private boolean isTakenBy(int spot, int latestCar) {
            int taker = takerOf(spot);
            return taker != NONE && taker <= latestCar;
        }

        int longestRow() {
            int longest = 0;
            for (int spot = 0; spot < size; spot++) {
                int row = 0;
                while (row < size && takerOf(wrapped(spot + row, size)) != NONE) {
                    row++;
                }
                longest = Math.max(longest, row);
            }
            return longest;
        }

        int luckyCars() {
            int lucky = 0;
            for (int car = 0; car < arrived; car++) {
                if (isLucky(car)) {
                    lucky++;
                }
            }
            return lucky;
        }

        int area() {
            int sum = 0;
            for (int car = 0; car < arrived; car++) {
                sum += movedOf(car);
            }
            return sum;
        }

        int areaByPreferences() {
            int sum = arrived * (arrived - 1) / 2;
            for (int car = 0; car < arrived; car++) {
                sum -= turnedPreferenceOf(car);
            }
            return sum;
        }

        int wayOfAll() {
            int sum = 0;
            for (int car = 0; car < arrived; car++) {
                sum += Math.abs(movedOf(car));
            }
            return sum;
        }

        boolean isBreak(int number) {
            int below = 0;
            for (int car = 0; car < arrived; car++) {
                if (turnedPreferenceOf(car) < number) {
                    below++;
                }
            }
            return below == number;
        }

        int breaks() {
            int found = 0;
            for (int number = 1; number <= arrived; number++) {
                if (isBreak(number)) {
                    found++;
                }
            }
            return found;
        }
    }

    /** The tree that is told by the differences of the preferences. */
    private static final class Tree {
        private final int[] code = new int[MOST_CARS];
        private final int[] leaving = new int[MOST_CARS];
        private final int[] staying = new int[MOST_CARS];
        private final boolean[] isCut = new boolean[MOST_CARS];
        private final int[] weights = new int[MOST_SPOTS];
        private final int[][] distances = new int[MOST_SPOTS][MOST_SPOTS];
        private int nodes = 0;
        private int numbers = 0;
        private int edges = 0;

        void grow(Cars row) {
            nodes = row.spots();
            numbers = row.count() > 1 ? row.count() - 1 : 0;
            edges = 0;
            Arrays.fill(weights, 1);
            for (int k = 0; k < numbers && k < MOST_CARS; k++) {
                int number = wrapped(row.preferenceOf(k + 1) - row.preferenceOf(k), nodes);
                code[k] = number;
                if (isNode(number)) {
                    weights[number]++;
                }
            }
            for (int k = 0; k < numbers; k++) {
                join(leastOfWeightOne(NONE), numberAt(k));
            }
            int last = leastOfWeightOne(NONE);
            join(last, leastOfWeightOne(last));
        }

        private void join(int node, int other) {
            if (isNode(node) && isNode(other) && edges < MOST_CARS) {
                leaving[edges] = node;
                staying[edges] = other;
                edges++;
                weights[node] = 0;
                weights[other]--;
            }
        }

        private boolean isNode(int node) {
            return node >= 0 && node < nodes && node < MOST_SPOTS;
        }

        private boolean isEdge(int k) {
            return k >= 0 && k < edges && k < MOST_CARS;
        }

        private boolean isAtEdge(int node, int k) {
            return isEdge(k) && (leaving[k] == node || staying[k] == node);
        }

        private int leastOfWeightOne(int except) {
            for (int node = 0; node < nodes && node < MOST_SPOTS; node++) {
                if (weights[node] == 1 && node != except) {
                    return node;
                }
            }
            return NONE;
        }

        int numberAt(int k) {
            return k >= 0 && k < numbers && k < MOST_CARS ? code[k] : NONE;
        }

        int edgeAt(int k) {
            if (!isEdge(k)) {
                return NONE;
            }
            return 100 * Math.min(leaving[k], staying[k]) + Math.max(leaving[k], staying[k]);
        }

        int edgesAt(int node) {
            int found = 0;
            for (int k = 0; k < edges; k++) {
                if (isAtEdge(node, k)) {
                    found++;
                }
            }
            return found;
        }

        int nodesWithOneEdge() {
            int found = 0;
            for (int node = 0; node < nodes; node++) {
                if (edgesAt(node) == 1) {
                    found++;
                }
            }
            return found;
        }

        /** From the last edge to the first one, each joins one node more to those that were joined before. */
        void measure() {
            for (int node = 0; node < nodes && node < MOST_SPOTS; node++) {
                Arrays.fill(distances[node], NONE);
                distances[node][node] = 0;
            }
            for (int k = edges - 1; k >= 0; k--) {
                if (isEdge(k)) {
                    measureFrom(leaving[k], staying[k]);
                }
            }
        }

        private void measureFrom(int added, int neighbour) {
            if (!isNode(added) || !isNode(neighbour)) {
                return;
            }
            for (int node = 0; node < nodes && node < MOST_SPOTS; node++) {
                int distance = distances[neighbour][node];
                if (node != added && distance != NONE) {
                    distances[added][node] = distance + 1;
                    distances[node][added] = distance + 1;
                }
            }
        }

        int distance(int node, int other) {
            return isNode(node) && isNode(other) ? distances[node][other] : NONE;
        }

        int greatestDistance() {
            int greatest = 0;
            for (int node = 0; node < nodes; node++) {
                for (int other = 0; other < node; other++) {
                    greatest = Math.max(greatest, distance(node, other));
                }
            }
            return greatest;
        }

        int differencesOfCodes() {
            for (int k = 0; k < edges && k < MOST_CARS; k++) {
                isCut[k] = false;
            }
            for (int node = 0; node < nodes && node < MOST_SPOTS; node++) {
                weights[node] = edgesAt(node);
            }
            int differences = 0;
            for (int k = 0; k < numbers; k++) {
                if (cutOff(leastOfWeightOne(NONE)) != numberAt(k)) {
                    differences++;
                }
            }
            return differences;
        }

        /** The weights are here how many edges a node still has. Answers the node to which the one that goes led. */
        private int cutOff(int node) {
            for (int k = 0; k < edges; k++) {
                if (isAtEdge(node, k) && !isCut[k]) {
                    isCut[k] = true;
                    lighten(leaving[k]);
                    lighten(staying[k]);
                    return leaving[k] == node ? staying[k] : leaving[k];
                }
            }
            return NONE;
        }

        private void lighten(int node) {
            if (isNode(node)) {
                weights[node]--;
            }
        }
    }

    /** Bytes up to a number that is never exceeded. */
    private static final class Bytes {
        private final byte[] bytes;
        private int length = 0;

        Bytes(int most) {
            bytes = new byte[most < 0 ? 0 : most];
        }

        int length() {
            return length;
        }

        int at(int i) {
            return i >= 0 && i < length && i < bytes.length ? bytes[i] : NONE;
        }

        void add(int one) {
            if (length < bytes.length) {
                bytes[length] = (byte) one;
                length++;
            }
        }

        void addFour(int four) {
            for (int shift = 24; shift >= 0; shift -= 8) {
                add(four >> shift);
            }
        }

        void addName(long name) {
            for (int i = 0; i < MOST_LETTERS && letterOf(name, i) > 0; i++) {
                add('a' - 1 + letterOf(name, i));
            }
        }

        void shorten(int to) {
            if (to >= 0 && to < length) {
                length = to;
            }
        }

        /** NO_NAME unless all bytes together are a NAME. */
        long wholeName() {
            if (length > MOST_LETTERS) {
                return NO_NAME;
            }
            long name = NO_NAME;
            for (int i = 0; i < length; i++) {
                if (!isLetter(at(i))) {
                    return NO_NAME;
                }
                name = withLetter(name, i, at(i) - 'a' + 1);
            }
            return name;
        }
    }

    /** The buffer, its tokens, one at a time, and the first error that is found in them. */
    private static final class Tokens {
        private static final int END = 0;
        private static final int WORD = 1;
        private static final int NUMBER = 2;
        private static final int MARK = 3;
        private static final int WRONG = 4;

        private final Bytes text = new Bytes(BUFFER_BYTES);
        private int kind = END;
        private int start = 0;
        private int next = 0;
        private long word = NO_NAME;
        private int number = 0;
        private int mark = 0;
        private int wrongCode = 0;
        private int wrongPosition = NONE;

        Bytes text() {
            return text;
        }

        void begin() {
            kind = END;
            start = 0;
            next = 0;
            wrongCode = 0;
            wrongPosition = NONE;
        }

        void advance() {
            while (next < text.length() && (text.at(next) == ' ' || text.at(next) == '\n')) {
                next++;
            }
            start = next;
            int sign = text.at(next);
            if (next >= text.length()) {
                kind = END;
            } else if (isLetter(sign)) {
                takeWord();
            } else if (isDigit(sign)) {
                takeNumber();
            } else {
                kind = sign == ';' || sign == '(' || sign == ')' ? MARK : WRONG;
                mark = sign;
                next++;
            }
        }

        private void takeWord() {
            word = NO_NAME;
            while (next < text.length() && isLetter(text.at(next))) {
                if (next - start < MOST_LETTERS) {
                    word = withLetter(word, next - start, text.at(next) - 'a' + 1);
                }
                next++;
            }
            kind = next - start > MOST_LETTERS ? WRONG : WORD;
        }

        private void takeNumber() {
            number = 0;
            while (next < text.length() && isDigit(text.at(next))) {
                if (next - start < MOST_DIGITS) {
                    number = 10 * number + (text.at(next) - '0');
                }
                next++;
            }
            kind = next - start > MOST_DIGITS ? WRONG : NUMBER;
        }

        boolean isEnd() {
            return kind == END;
        }

        boolean isWord() {
            return kind == WORD;
        }

        boolean isWord(String one) {
            return kind == WORD && word == wordOf(one);
        }

        boolean isMark(char one) {
            return kind == MARK && mark == one;
        }

        long word() {
            return word;
        }

        int number() {
            return number;
        }

        boolean readWord(String one) {
            advance();
            return isWord(one) || fail(WRONG_GRAMMAR);
        }

        boolean readName() {
            advance();
            return isWord() || fail(WRONG_GRAMMAR);
        }

        boolean readMark(char one) {
            advance();
            return isMark(one) || fail(WRONG_GRAMMAR);
        }

        boolean readNumber(int least, int most) {
            advance();
            if (kind != NUMBER) {
                return fail(WRONG_GRAMMAR);
            }
            return number >= least && number <= most || fail(WRONG_RANGE);
        }

        /** Notes an error at the present token; answers false, as whoever reads it ends with that. */
        boolean fail(int code) {
            wrongCode = code;
            wrongPosition = start;
            return false;
        }

        int wrongCode() {
            return wrongCode;
        }

        int wrongPosition() {
            return wrongPosition;
        }
    }

    private enum Command {
        PREFER("prefer", true, true),
        SWAP("swap", true, false),
        TURN("turn", false, true),
        BACK("back", false, true),
        COME("come", true, true),
        GO("go", true, false),
        SORT("sort", false, false),
        REVERSE("reverse", false, false),
        REPEAT("repeat", false, true);

        private static final Command[] ALL = values();

        private final String text;
        private final boolean takesName;
        private final boolean takesNumber;

        Command(String text, boolean takesName, boolean takesNumber) {
            this.text = text;
            this.takesName = takesName;
            this.takesNumber = takesNumber;
        }

        static Command withWord(long word) {
            for (Command command : ALL) {
                if (wordOf(command.text) == word) {
                    return command;
                }
            }
            return null;
        }
    }

    /** The commands of a script in the order of the text; those of a "repeat" stand just behind it. */
    private static final class Script {
        private final Command[] commands = new Command[MOST_COMMANDS];
        private final long[] names = new long[MOST_COMMANDS];
        private final int[] numbers = new int[MOST_COMMANDS];
        private final int[] behind = new int[MOST_COMMANDS];
        /** The indexes of the "repeat" commands whose brackets are open while the text is read. */
        private final int[] open = new int[MOST_DEPTH];
        private int depth = 0;
        private int count = 0;

        int count() {
            return count;
        }

        private boolean has(int index) {
            return index >= 0 && index < count && index < MOST_COMMANDS;
        }

        Command commandAt(int index) {
            return has(index) ? commands[index] : null;
        }

        long nameAt(int index) {
            return has(index) ? names[index] : NO_NAME;
        }

        int numberAt(int index) {
            return has(index) ? numbers[index] : 0;
        }

        /** The index of the next command that is not within the one with this index; always a greater one. */
        int behind(int index) {
            return has(index) && behind[index] > index ? behind[index] : index + 1;
        }

        /** Reads the whole text; as each turn takes a token at least, there are no more turns than bytes. */
        boolean read(Tokens tokens) {
            count = 0;
            depth = 0;
            for (int turns = 0; turns <= BUFFER_BYTES; turns++) {
                tokens.advance();
                if (depth == 0 && tokens.isEnd()) {
                    return true;
                }
                if (depth > 0 && tokens.isMark(')')) {
                    closeRepeat();
                    if (!tokens.readMark(';')) {
                        return false;
                    }
                } else if (!readCommand(tokens)) {
                    return false;
                }
            }
            return tokens.fail(WRONG_GRAMMAR);
        }

        /** Reads a command to its end, or a "repeat" to its opening bracket. */
        private boolean readCommand(Tokens tokens) {
            Command command = tokens.isWord() ? Command.withWord(tokens.word()) : null;
            if (command == null) {
                return tokens.fail(WRONG_GRAMMAR);
            }
            boolean isRepeat = command == Command.REPEAT;
            if (isRepeat && depth >= MOST_DEPTH) {
                return tokens.fail(WRONG_REPETITION);
            }
            if (count >= MOST_COMMANDS) {
                return tokens.fail(WRONG_NUMBER_OF);
            }
            if (command.takesName && !tokens.readName()) {
                return false;
            }
            long name = command.takesName ? tokens.word() : NO_NAME;
            if (command.takesNumber && !tokens.readNumber(isRepeat ? 1 : 0, isRepeat ? MOST_REPEATS : MOST_NUMBER)) {
                return false;
            }
            int number = command.takesNumber ? tokens.number() : 0;
            if (!tokens.readMark(isRepeat ? '(' : ';')) {
                return false;
            }
            add(command, name, number);
            return true;
        }

        private void add(Command command, long name, int number) {
            if (count < 0 || count >= MOST_COMMANDS) {
                return;
            }
            commands[count] = command;
            names[count] = name;
            numbers[count] = number;
            behind[count] = count + 1;
            if (command == Command.REPEAT) {
                openRepeat(count);
            }
            count++;
        }

        private void openRepeat(int index) {
            if (depth >= 0 && depth < MOST_DEPTH) {
                open[depth] = index;
                depth++;
            }
        }

        private void closeRepeat() {
            if (depth > 0 && depth <= MOST_DEPTH) {
                depth--;
                if (has(open[depth])) {
                    behind[open[depth]] = count;
                }
            }
        }
    }
}
