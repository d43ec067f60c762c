/**
 * Long caterpillars that stretch over many rooms of a house and stop in all of them.
 * ../shared/DOC.md says what every call answers; its promises are named here by their numbers.
 */
public final class LongCaterpillars {

    public static final int NONE = -1;

    private static final int SIDE = 6;
    private static final int ROOMS = SIDE * SIDE;
    private static final int MOST_CATERPILLARS = 10;
    private static final int LONGEST = 9;
    private static final int RULES = 3;
    private static final int MOST_TICKS = 60;
    private static final int HORIZON = 200;
    private static final int MOST_REMEMBERED = 14;
    private static final int SAVE_SLOTS = 2;
    private static final int MOST_CHARACTERS = 120;
    private static final int LARGEST_CHARACTER = 255;
    private static final int MOST_COMMANDS = 3;
    private static final int GROUP = 1_000_000;
    private static final int MOST_TURNS = 60;
    private static final int MOST_WAITS_TOLD = 999;

    // Where a caterpillar is.
    private static final int CRACKED = 0;
    private static final int OUT = 1;
    private static final int GONE = 2;
    private static final int PULLED = 3;

    // The numbers of a caterpillar: the first nine are those of promise 7, in its order;
    // the rooms in which it lies follow, from that of its head on.
    private static final int WHERE = 0;
    private static final int LIES_IN = 1;
    private static final int IN_CRACK = 2;
    private static final int EATEN = 3;
    private static final int WAITED = 4;
    private static final int GONE_TICK = 5;
    private static final int CRACK = 6;
    private static final int LEAF = 7;
    private static final int LENGTH = 8;
    private static final int ASKED_NUMBERS = 9;
    private static final int HEAD = 9;
    private static final int NUMBERS = HEAD + LONGEST;

    // The cells of a state: up to the first taker they begin with 0, from there on with NONE.
    private static final int COUNT = 0;
    private static final int RULE = 1;
    private static final int TICKS = 2;
    private static final int WAITS = 3;
    private static final int SHUTTERS = 4;
    private static final int TAKERS = SHUTTERS + ROOMS;
    private static final int CATERPILLARS = TAKERS + ROOMS;
    private static final int CELLS = CATERPILLARS + MOST_CATERPILLARS * NUMBERS;

    // The places of the shelf: first those of the remembered states, then the save slots.
    private static final int FIRST_SLOT = MOST_REMEMBERED;
    private static final int PLACES = FIRST_SLOT + SAVE_SLOTS;

    private final Text text = new Text();
    private final House house = new House();
    private final Shelf shelf = new Shelf();
    private int lastRemembered = 0;
    private int rememberedCount = 0;
    private final boolean[] isSaved = new boolean[SAVE_SLOTS];

    // What would be is tried on these two, made once, as nothing is ever given back:
    // a changed copy of the house, and a copy that runs ahead of the house or of the changed copy.
    private final House trial = new House();
    private final House ahead = new House();

    /** Promise 1. */
    public LongCaterpillars() {
    }

    // ---- text

    /** Promise 2. */
    public int append(int c) throws IllegalArgumentException, IllegalStateException {
        if (c < 0 || c > LARGEST_CHARACTER) {
            throw new IllegalArgumentException("no character has this code");
        }
        if (text.isFull()) {
            throw new IllegalStateException("the text is full");
        }
        text.add(c);
        return text.size();
    }

    /** Promise 3. */
    public int clearText() {
        int before = text.size();
        text.empty();
        return before;
    }

    /** Promise 4. */
    public int errorPosition() {
        return text.firstFault();
    }

    /** Promise 5. */
    public int load() throws IllegalStateException {
        if (text.firstFault() != NONE) {
            throw new IllegalStateException("the text is not a house");
        }
        house.empty();
        forgetRemembered();
        emptySlots();
        int leftOut = 0;
        for (int k = 1; k < text.size(); k++) {
            if (!text.isDigitAt(k) && !doesCommand(k)) {
                leftOut++;
            }
        }
        return leftOut;
    }

    private boolean doesCommand(int k) {
        switch (text.at(k)) {
            case 'h':
                return house.addCaterpillar(text.twoDigits(k + 1), text.twoDigits(k + 3), text.digit(k + 5));
            case 't':
                return house.runTicks(text.twoDigits(k + 1));
            case 'x':
                return house.setShut(text.twoDigits(k + 1), true);
            case 'r':
                return house.setRule(text.digit(k + 1));
            case 'p':
                return house.pullOut(text.digit(k + 1));
            default:
                return false;
        }
    }

    // ---- what there is

    /** Promise 6. */
    public int about(int what) throws IllegalArgumentException {
        switch (what) {
            case 0:
                return house.count();
            case 1:
                return house.countWhere(CRACKED);
            case 2:
                return house.countWhere(OUT);
            case 3:
                return house.countWhere(GONE);
            case 4:
                return house.countWhere(PULLED);
            case 5:
                return house.ticksSoFar();
            case 6:
                return house.takenRooms();
            case 7:
                return house.shutRooms();
            case 8:
                return house.presentRule();
            case 9:
                return house.waitsSoFar();
            default:
                throw new IllegalArgumentException("no such number");
        }
    }

    /** Promise 7. */
    public int caterpillar(int i, int what) throws IndexOutOfBoundsException, IllegalArgumentException {
        if (!house.has(i)) {
            throw new IndexOutOfBoundsException("no such caterpillar");
        }
        if (what < 0 || what >= ASKED_NUMBERS) {
            throw new IllegalArgumentException("no such number of a caterpillar");
        }
        return house.number(i, what);
    }

    /** Promise 8. */
    public int lies(int i, int k) throws IndexOutOfBoundsException {
        if (!house.has(i)) {
            throw new IndexOutOfBoundsException("no such caterpillar");
        }
        if (k < 0 || k >= house.number(i, LIES_IN)) {
            throw new IndexOutOfBoundsException("it does not lie in so many rooms");
        }
        return house.number(i, HEAD + k);
    }

    /** Promise 9. */
    public int room(int k, int what) throws IndexOutOfBoundsException, IllegalArgumentException {
        if (!isRoom(k)) {
            throw new IndexOutOfBoundsException("no such room");
        }
        if (what != 0 && what != 1) {
            throw new IllegalArgumentException("no such number of a room");
        }
        if (what == 0) {
            return house.takerOf(k);
        }
        return house.isShut(k) ? 1 : 0;
    }

    /** Promise 10. */
    public int next(int i) throws IndexOutOfBoundsException {
        if (!house.has(i)) {
            throw new IndexOutOfBoundsException("no such caterpillar");
        }
        return house.nextRoomOf(i);
    }

    /** Promise 11. */
    public int waitsFor(int i) throws IndexOutOfBoundsException {
        if (!house.has(i)) {
            throw new IndexOutOfBoundsException("no such caterpillar");
        }
        return house.blockerOf(i);
    }

    /** Promise 12. */
    public int ring(int what) throws IllegalArgumentException {
        if (what != 0 && what != 1) {
            throw new IllegalArgumentException("no such number of a ring");
        }
        int lowest = house.lowestInRing();
        return what == 0 || lowest == NONE ? lowest : house.ringSizeOf(lowest);
    }

    // ---- actions

    /** Promise 13. */
    public int hatch(int crack, int leaf, int length)
            throws IndexOutOfBoundsException, IllegalArgumentException, IllegalStateException {
        if (!isRoom(crack) || !isRoom(leaf)) {
            throw new IndexOutOfBoundsException("no such room");
        }
        if (!isLength(length)) {
            throw new IllegalArgumentException("no caterpillar has this length");
        }
        if (house.isFull()) {
            throw new IllegalStateException("there are as many caterpillars as there can be");
        }
        remember();
        house.addCaterpillar(crack, leaf, length);
        return house.count() - 1;
    }

    /** Promise 14. */
    public int ticks(int n) throws IllegalArgumentException {
        if (!isTicks(n)) {
            throw new IllegalArgumentException("not so many ticks go by at once");
        }
        remember();
        int goneBefore = house.countWhere(GONE);
        house.runTicks(n);
        return house.countWhere(GONE) - goneBefore;
    }

    /** Promise 15. */
    public int rule(int rule) throws IllegalArgumentException {
        if (!isRule(rule)) {
            throw new IllegalArgumentException("no such rule");
        }
        remember();
        int before = house.presentRule();
        house.setRule(rule);
        return before;
    }

    /** Promise 16. */
    public int shut(int k, boolean shut) throws IndexOutOfBoundsException, IllegalStateException {
        if (!isRoom(k)) {
            throw new IndexOutOfBoundsException("no such room");
        }
        if (shut && house.isTaken(k)) {
            throw new IllegalStateException("the room is taken");
        }
        remember();
        house.setShut(k, shut);
        return house.shutRooms();
    }

    /** Promise 17. */
    public int pull(int i) throws IndexOutOfBoundsException, IllegalStateException {
        if (!house.has(i)) {
            throw new IndexOutOfBoundsException("no such caterpillar");
        }
        if (!house.isUnderWay(i)) {
            throw new IllegalStateException("it is gone or pulled already");
        }
        remember();
        int left = house.number(i, LIES_IN);
        house.pullOut(i);
        return left;
    }

    /** Promise 18. */
    public int undo() throws IllegalStateException {
        if (rememberedCount == 0) {
            throw new IllegalStateException("no state is remembered");
        }
        house.readFrom(shelf, lastRemembered);
        lastRemembered = (lastRemembered + MOST_REMEMBERED - 1) % MOST_REMEMBERED;
        rememberedCount--;
        return rememberedCount;
    }

    /** The places are used in a circle, so that the one written over holds the oldest state. */
    private void remember() {
        lastRemembered = (lastRemembered + 1) % MOST_REMEMBERED;
        house.writeTo(shelf, lastRemembered);
        if (rememberedCount < MOST_REMEMBERED) {
            rememberedCount++;
        }
    }

    private void forgetRemembered() {
        rememberedCount = 0;
    }

    // ---- what would be

    /** Promise 19. */
    public int goneIn(int i) throws IndexOutOfBoundsException {
        if (!house.has(i)) {
            throw new IndexOutOfBoundsException("no such caterpillar");
        }
        return ticksUntilGone(house, i);
    }

    /** Promise 20. */
    public int throughIn() {
        return runAhead(house);
    }

    /** Promise 21. */
    public int bestRule() {
        int best = 0;
        int mostGone = NONE;
        int leastTicks = NONE;
        for (int rule = 0; rule < RULES; rule++) {
            trial.copyFrom(house);
            trial.setRule(rule);
            int ticks = noneAsMost(runAhead(trial));
            int gone = ahead.countWhere(GONE);
            if (gone > mostGone || (gone == mostGone && ticks < leastTicks)) {
                best = rule;
                mostGone = gone;
                leastTicks = ticks;
            }
        }
        return best;
    }

    private static int noneAsMost(int ticks) {
        return ticks == NONE ? HORIZON + 1 : ticks;
    }

    /** Promise 22. */
    public int bestPull() {
        runAhead(house);
        int goneAnyway = ahead.goneSet();
        int best = NONE;
        int mostGone = NONE;
        for (int i = 0; i < house.count(); i++) {
            if (house.isUnderWay(i)) {
                int gone = goneIfPulled(i);
                if (gone > othersIn(goneAnyway, i) && gone > mostGone) {
                    best = i;
                    mostGone = gone;
                }
            }
        }
        return best;
    }

    private int goneIfPulled(int i) {
        trial.copyFrom(house);
        trial.pullOut(i);
        runAhead(trial);
        return ahead.countWhere(GONE);
    }

    private static int othersIn(int set, int i) {
        return Integer.bitCount(set & ~(1 << i));
    }

    /** Promise 23. */
    public int ifHatched(int crack, int leaf, int length)
            throws IndexOutOfBoundsException, IllegalArgumentException {
        if (!isRoom(crack) || !isRoom(leaf)) {
            throw new IndexOutOfBoundsException("no such room");
        }
        if (!isLength(length)) {
            throw new IllegalArgumentException("no caterpillar has this length");
        }
        if (house.isFull()) {
            return NONE;
        }
        trial.copyFrom(house);
        trial.addCaterpillar(crack, leaf, length);
        return ticksUntilGone(trial, trial.count() - 1);
    }

    private int ticksUntilGone(House start, int i) {
        runAhead(start);
        if (ahead.number(i, WHERE) != GONE) {
            return NONE;
        }
        return Math.max(0, ahead.number(i, GONE_TICK) - start.ticksSoFar());
    }

    /**
     * Lets a copy of the house run until none is under way, and answers as promise 20 does.
     * A tick in which all wait is followed by others like it alone, so the run may stop there:
     * where each is then is where it is behind 200 ticks.
     */
    private int runAhead(House start) {
        ahead.copyFrom(start);
        for (int behind = 0; behind < HORIZON; behind++) {
            if (ahead.isThrough()) {
                return behind;
            }
            if (!ahead.moveAll()) {
                return NONE;
            }
        }
        return ahead.isThrough() ? HORIZON : NONE;
    }

    // ---- scripts, simulations

    /** Promise 24. */
    public int runScript(int n, long script) throws IllegalArgumentException {
        if (n < 1 || n > MOST_COMMANDS) {
            throw new IllegalArgumentException("a script has 1 to 3 commands");
        }
        if (script < 0 || withoutGroups(script, n) != 0) {
            throw new IllegalArgumentException("the script has not the digits of so many commands");
        }
        trial.copyFrom(house);
        for (int k = 0; k < n; k++) {
            if (!succeeds((int) (withoutGroups(script, n - 1 - k) % GROUP))) {
                return k;
            }
        }
        return NONE;
    }

    /** The script without its lowest groups, so many of them. */
    private static long withoutGroups(long script, int groups) {
        long rest = script;
        for (int k = 0; k < groups; k++) {
            rest /= GROUP;
        }
        return rest;
    }

    private boolean succeeds(int group) {
        int roomDigits = group / 1000 % 100;
        int middleDigits = group / 10 % 100;
        int last = group % 10;
        switch (group / 100_000) {
            case 1:
                return group / 100 == 1000 && trial.runTicks(group % 100);
            case 2:
                return trial.addCaterpillar(roomDigits, middleDigits, last);
            case 3:
                return group / 10 == 30_000 && trial.setRule(last);
            case 4:
                return middleDigits == 0 && last <= 1 && trial.setShut(roomDigits, last == 1);
            case 5:
                return group / 10 == 50_000 && trial.pullOut(last);
            case 6:
                return group / 10_000 == 60 && middleDigits == 0 && trial.isWhere(group / 1000 % 10, last);
            case 7:
                return middleDigits == 0 && trial.has(last) && trial.takerOf(roomDigits) == last;
            case 8:
                return group / 10 == 80_000 && last <= 1 && (trial.lowestInRing() != NONE) == (last == 1);
            case 9:
                return group / 1000 == 900 && isWithin(runAhead(trial), group % 1000);
            default:
                return false;
        }
    }

    private static boolean isWithin(int behind, int most) {
        return behind != NONE && behind <= most;
    }

    /** Promise 25. */
    public int simulate(long seed, int m) throws IllegalArgumentException {
        if (m < 1 || m > MOST_TURNS) {
            throw new IllegalArgumentException("a simulation has 1 to 60 turns");
        }
        trial.copyFrom(house);
        long x = seed;
        for (int turn = 0; turn < m; turn++) {
            x = x * 6364136223846793005L + 1442695040888963407L;
            takeTurn((int) (x >>> 33));
        }
        int waits = trial.waitsSoFar() - house.waitsSoFar();
        return 1000 * trial.countWhere(GONE) + Math.min(waits, MOST_WAITS_TOLD);
    }

    private void takeTurn(int r) {
        int q = r / 8;
        switch (r % 8) {
            case 0:
            case 1:
            case 2:
                trial.addCaterpillar(q % 36, q / 36 % 36, 1 + q / 1296 % 9);
                break;
            case 3:
                if (q / 4 % 4 == 0) {
                    trial.setRule(q % 3);
                } else {
                    trial.setShut(q % 36, q / 64 % 4 == 0);
                }
                break;
            case 4:
                if (q / 16 % 4 == 0) {
                    trial.pullOut(q % 10);
                } else {
                    trial.runTicks(1);
                }
                break;
            default:
                trial.runTicks(1 + q % 12);
                break;
        }
    }

    // ---- save slots

    /** Promise 26. */
    public int save(int slot) throws IndexOutOfBoundsException {
        if (slot < 0 || slot >= SAVE_SLOTS) {
            throw new IndexOutOfBoundsException("no such save slot");
        }
        house.writeTo(shelf, FIRST_SLOT + slot);
        isSaved[slot] = true;
        return house.ticksSoFar();
    }

    /** Promise 27. */
    public int restore(int slot) throws IndexOutOfBoundsException, IllegalStateException {
        if (slot < 0 || slot >= SAVE_SLOTS) {
            throw new IndexOutOfBoundsException("no such save slot");
        }
        if (!isSaved[slot]) {
            throw new IllegalStateException("nothing has been saved in this slot");
        }
        house.readFrom(shelf, FIRST_SLOT + slot);
        forgetRemembered();
        return house.ticksSoFar();
    }

    private void emptySlots() {
        for (int slot = 0; slot < SAVE_SLOTS; slot++) {
            isSaved[slot] = false;
        }
    }

    // ---- ranges

    private static boolean isRoom(int k) {
        return k >= 0 && k < ROOMS;
    }

    private static boolean isLength(int length) {
        return length >= 1 && length <= LONGEST;
    }

    private static boolean isRule(int rule) {
        return rule >= 0 && rule < RULES;
    }

    private static boolean isTicks(int n) {
        return n >= 1 && n <= MOST_TICKS;
    }

    /** The text buffer, and the rules by which a text is a house. */
    private static final class Text {
        private final int[] characters = new int[MOST_CHARACTERS];
        private int used = 0;

        int size() {
            return used;
        }

        boolean isFull() {
            return used >= MOST_CHARACTERS;
        }

        void empty() {
            used = 0;
        }

        void add(int c) {
            if (used >= 0 && used < MOST_CHARACTERS) {
                characters[used] = c;
                used++;
            }
        }

        int at(int k) {
            return k >= 0 && k < used && k < MOST_CHARACTERS ? characters[k] : NONE;
        }

        boolean isDigitAt(int k) {
            return isDigit(at(k), '0', '9');
        }

        int digit(int k) {
            return at(k) - '0';
        }

        int twoDigits(int k) {
            return 10 * digit(k) + digit(k + 1);
        }

        int firstFault() {
            if (at(0) != 'L') {
                return 0;
            }
            String shape = "";
            int place = 0;
            for (int k = 1; k < used; k++) {
                if (place < shape.length()) {
                    if (!fits(shape.charAt(place), at(k - 1), at(k))) {
                        return k;
                    }
                    place++;
                } else {
                    shape = shapeOf(at(k));
                    if (shape.isEmpty()) {
                        return k;
                    }
                    place = 0;
                }
            }
            return place < shape.length() ? used : NONE;
        }

        /** The digits behind the letter of a command, a sign for each; nothing if there is no such command. */
        private static String shapeOf(int letter) {
            switch (letter) {
                case 'h':
                    return "RrRrl";
                case 't':
                    return "Tt";
                case 'x':
                    return "Rr";
                case 'r':
                    return "w";
                case 'p':
                    return "c";
                default:
                    return "";
            }
        }

        private static boolean fits(char sign, int before, int c) {
            switch (sign) {
                case 'R':
                    return isDigit(c, '0', '3');
                case 'r':
                    return isDigit(c, '0', before == '3' ? '5' : '9');
                case 'l':
                    return isDigit(c, '1', '9');
                case 'T':
                    return isDigit(c, '0', '6');
                case 't':
                    return isDigit(c, before == '0' ? '1' : '0', before == '6' ? '0' : '9');
                case 'w':
                    return isDigit(c, '0', '2');
                default:
                    return isDigit(c, '0', '9');
            }
        }

        private static boolean isDigit(int c, int lowest, int highest) {
            return c >= lowest && c <= highest;
        }
    }

    /** The states that are kept, one behind the other. */
    private static final class Shelf {
        private final int[] cells = new int[PLACES * CELLS];

        static boolean isPlace(int place) {
            return place >= 0 && place < PLACES;
        }
    }

    /**
     * A state: all that undo takes back. It stands in one row of cells, so that it is copied as one;
     * what would throw an exception in the face is refused here with the answer false.
     */
    private static final class House {
        private final int[] cells = new int[CELLS];

        House() {
            empty();
        }

        void empty() {
            for (int k = 0; k < CELLS; k++) {
                cells[k] = k < TAKERS ? 0 : NONE;
            }
        }

        void copyFrom(House other) {
            System.arraycopy(other.cells, 0, cells, 0, CELLS);
        }

        void writeTo(Shelf shelf, int place) {
            if (Shelf.isPlace(place)) {
                System.arraycopy(cells, 0, shelf.cells, place * CELLS, CELLS);
            }
        }

        void readFrom(Shelf shelf, int place) {
            if (Shelf.isPlace(place)) {
                System.arraycopy(shelf.cells, place * CELLS, cells, 0, CELLS);
            }
        }

        int count() {
            return cells[COUNT];
        }

        boolean isFull() {
            return cells[COUNT] >= MOST_CATERPILLARS;
        }

        boolean has(int i) {
            return i >= 0 && i < cells[COUNT];
        }

        int presentRule() {
            return cells[RULE];
        }

        int ticksSoFar() {
            return cells[TICKS];
        }

        int waitsSoFar() {
            return cells[WAITS];
        }

        int takerOf(int k) {
            return isRoom(k) ? cells[TAKERS + k] : NONE;
        }

        boolean isTaken(int k) {
            return takerOf(k) != NONE;
        }

        boolean isShut(int k) {
            return isRoom(k) && cells[SHUTTERS + k] != 0;
        }

        /** Open and not taken; NONE, too, is no free room. */
        private boolean isFree(int k) {
            return k >= 0 && k < ROOMS && cells[SHUTTERS + k] == 0 && cells[TAKERS + k] == NONE;
        }

        private void setTaker(int k, int taker) {
            if (k >= 0 && k < ROOMS) {
                cells[TAKERS + k] = taker;
            }
        }

        int takenRooms() {
            int taken = 0;
            for (int k = 0; k < ROOMS; k++) {
                if (isTaken(k)) {
                    taken++;
                }
            }
            return taken;
        }

        int shutRooms() {
            int shut = 0;
            for (int k = 0; k < ROOMS; k++) {
                if (isShut(k)) {
                    shut++;
                }
            }
            return shut;
        }

        /** NONE, if there is no such caterpillar. */
        int number(int i, int what) {
            if (i < 0 || i >= MOST_CATERPILLARS || what < 0 || what >= NUMBERS) {
                return NONE;
            }
            return cells[CATERPILLARS + i * NUMBERS + what];
        }

        private void setNumber(int i, int what, int value) {
            if (i >= 0 && i < MOST_CATERPILLARS && what >= 0 && what < NUMBERS) {
                cells[CATERPILLARS + i * NUMBERS + what] = value;
            }
        }

        boolean isWhere(int i, int where) {
            return number(i, WHERE) == where;
        }

        /** In its crack or out. */
        boolean isUnderWay(int i) {
            return isWhere(i, CRACKED) || isWhere(i, OUT);
        }

        boolean isThrough() {
            return countWhere(CRACKED) == 0 && countWhere(OUT) == 0;
        }

        int countWhere(int where) {
            int found = 0;
            for (int i = 0; i < MOST_CATERPILLARS; i++) {
                if (isWhere(i, where)) {
                    found++;
                }
            }
            return found;
        }

        /** The gone ones, a bit for each. */
        int goneSet() {
            int set = 0;
            for (int i = 0; i < MOST_CATERPILLARS; i++) {
                if (isWhere(i, GONE)) {
                    set |= 1 << i;
                }
            }
            return set;
        }

        boolean addCaterpillar(int crack, int leaf, int length) {
            if (isFull() || !isRoom(crack) || !isRoom(leaf) || !isLength(length)) {
                return false;
            }
            int i = cells[COUNT];
            cells[COUNT]++;
            setNumber(i, WHERE, CRACKED);
            setNumber(i, LIES_IN, 0);
            setNumber(i, IN_CRACK, length);
            setNumber(i, EATEN, 0);
            setNumber(i, WAITED, 0);
            setNumber(i, GONE_TICK, NONE);
            setNumber(i, CRACK, crack);
            setNumber(i, LEAF, leaf);
            setNumber(i, LENGTH, length);
            return true;
        }

        boolean setRule(int rule) {
            if (!isRule(rule)) {
                return false;
            }
            cells[RULE] = rule;
            return true;
        }

        boolean setShut(int k, boolean shut) {
            if (!isRoom(k) || (shut && isTaken(k))) {
                return false;
            }
            cells[SHUTTERS + k] = shut ? 1 : 0;
            return true;
        }

        boolean pullOut(int i) {
            if (!isUnderWay(i)) {
                return false;
            }
            for (int k = 0; k < ROOMS; k++) {
                if (takerOf(k) == i) {
                    setTaker(k, NONE);
                }
            }
            setNumber(i, WHERE, PULLED);
            setNumber(i, LIES_IN, 0);
            setNumber(i, IN_CRACK, 0);
            return true;
        }

        boolean runTicks(int n) {
            if (!isTicks(n)) {
                return false;
            }
            for (int k = 0; k < n; k++) {
                moveAll();
            }
            return true;
        }

        /** Lets one tick go by; tells whether any did something else than wait. */
        boolean moveAll() {
            cells[TICKS]++;
            boolean anyMoved = false;
            for (int i = 0; i < MOST_CATERPILLARS; i++) {
                if (isUnderWay(i) && moveOne(i)) {
                    anyMoved = true;
                }
            }
            return anyMoved;
        }

        /** Moves one that is under way; tells whether it did something else than wait. */
        private boolean moveOne(int i) {
            int goal = nextRoomOf(i);
            boolean isAtLeaf = goal == NONE;
            if (!isAtLeaf && !isFree(goal)) {
                setNumber(i, WAITED, number(i, WAITED) + 1);
                cells[WAITS]++;
                return false;
            }
            drawIn(i);
            if (isAtLeaf) {
                eatOnePart(i);
            } else {
                putHead(i, goal);
            }
            return true;
        }

        /** Its end moves up by one part: one comes out of the crack, or it leaves the last room. */
        private void drawIn(int i) {
            int hidden = number(i, IN_CRACK);
            if (hidden > 0) {
                setNumber(i, IN_CRACK, hidden - 1);
                return;
            }
            int rooms = number(i, LIES_IN);
            setTaker(number(i, HEAD + rooms - 1), NONE);
            setNumber(i, LIES_IN, rooms - 1);
        }

        private void eatOnePart(int i) {
            setNumber(i, EATEN, number(i, EATEN) + 1);
            if (number(i, LIES_IN) == 0) {
                setNumber(i, WHERE, GONE);
                setNumber(i, GONE_TICK, cells[TICKS]);
            }
        }

        private void putHead(int i, int k) {
            int rooms = number(i, LIES_IN);
            for (int place = rooms; place > 0; place--) {
                setNumber(i, HEAD + place, number(i, HEAD + place - 1));
            }
            setNumber(i, HEAD, k);
            setNumber(i, LIES_IN, rooms + 1);
            setNumber(i, WHERE, OUT);
            setTaker(k, i);
        }

        /** As promise 10 tells it: NONE, of one that is under way, only with its head at its leaf. */
        int nextRoomOf(int i) {
            int where = number(i, WHERE);
            if (where == CRACKED) {
                return number(i, CRACK);
            }
            if (where != OUT) {
                return NONE;
            }
            int alongRow = stepAlongRow(number(i, HEAD), number(i, LEAF));
            int alongColumn = stepAlongColumn(number(i, HEAD), number(i, LEAF));
            boolean columnFirst = cells[RULE] == 1
                    || (cells[RULE] == 2 && !isFree(alongRow) && isFree(alongColumn));
            if (columnFirst) {
                return alongColumn != NONE ? alongColumn : alongRow;
            }
            return alongRow != NONE ? alongRow : alongColumn;
        }

        private static int stepAlongRow(int from, int to) {
            int columns = to % SIDE - from % SIDE;
            if (columns == 0) {
                return NONE;
            }
            return columns > 0 ? from + 1 : from - 1;
        }

        private static int stepAlongColumn(int from, int to) {
            int rows = to / SIDE - from / SIDE;
            if (rows == 0) {
                return NONE;
            }
            return rows > 0 ? from + SIDE : from - SIDE;
        }

        /** The one for which it waits, as promise 11 tells it: a room that is taken is never free. */
        int blockerOf(int i) {
            return takerOf(nextRoomOf(i));
        }

        int lowestInRing() {
            for (int i = 0; i < MOST_CATERPILLARS; i++) {
                if (ringSizeOf(i) > 0) {
                    return i;
                }
            }
            return NONE;
        }

        /** How many are in its ring; 0 if it is in none. */
        int ringSizeOf(int i) {
            int other = i;
            for (int steps = 1; steps <= MOST_CATERPILLARS; steps++) {
                other = blockerOf(other);
                if (other == NONE) {
                    return 0;
                }
                if (other == i) {
                    return steps;
                }
            }
            return 0;
        }
    }
}
