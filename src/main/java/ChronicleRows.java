/**
 * A family chronicle laid out in rows of generations. What each call promises
 * stands in ../shared/DOC.md, under the number of its promise.
 *
 * All rows that calls need are made with the object: no call makes any.
 */
public final class ChronicleRows {
    /** There is nothing to return. */
    public static final int NONE = -1;

    private static final int ROWS = 4;
    private static final int LAST_ROW = 3;
    private static final int WIDTH = 6;
    /** 1 * 2 * 3 * 4 * 5 * 6: as many as six people have. */
    private static final int MAX_ORDERS = 720;
    private static final int MAX_PEOPLE = 20;
    private static final int MAX_COUPLES = 10;
    private static final int COUPLES_OF_DOUBLE = 2;
    private static final int SLOTS = 2;
    private static final int MAX_SAVED = 6;
    private static final int MAX_TEXT = 60;
    private static final int FIRST_CODE = 33;
    private static final int LAST_CODE = 126;
    /** What marry() adds to a couple's number, so that it is no reason. */
    private static final int COUPLE_MARK = 10;
    /** What swap() adds, so that its answer is not below zero. */
    private static final int SWAP_MARK = 100;
    /** Above every middle, and above all crossings that a row can have. */
    private static final int MORE_THAN_ANY = 1000;
    private static final long HASH_START = 3727L;

    private final State now = new State();
    private final State[] slots = new State[SLOTS];
    private final boolean[] kept = new boolean[SLOTS];
    private final SavedStates saved = new SavedStates();
    private final TextBuffer text = new TextBuffer();
    private final RowLines lines = new RowLines();
    private final ParentOrder parentOrder = new ParentOrder();
    private final RowSearch search = new RowSearch();

    public ChronicleRows() {
        for (int slot = 0; slot < SLOTS; slot++) {
            slots[slot] = new State();
        }
    }

    // ---- people, couples

    public int person(int row) throws IndexOutOfBoundsException {
        if (!isRow(row)) {
            throw new IndexOutOfBoundsException("no such row");
        }
        saved.push(now);
        return now.addPerson(row, NONE);
    }

    public int marry(int person, int other) throws IndexOutOfBoundsException, IllegalArgumentException {
        if (!now.isPerson(person) || !now.isPerson(other)) {
            throw new IndexOutOfBoundsException("no such person");
        }
        if (person == other) {
            throw new IllegalArgumentException("both are the same");
        }
        saved.push(now);
        return now.addCouple(person, other);
    }

    public int child(int couple) throws IndexOutOfBoundsException {
        if (!now.isCouple(couple)) {
            throw new IndexOutOfBoundsException("no such couple");
        }
        saved.push(now);
        return now.addChild(couple);
    }

    // ---- orders

    public int swap(int row, int place) throws IndexOutOfBoundsException, IllegalArgumentException {
        if (!isRow(row)) {
            throw new IndexOutOfBoundsException("no such row");
        }
        if (place < 0 || place >= now.sizeOf(row) - 1) {
            throw new IllegalArgumentException("no two people side by side there");
        }
        saved.push(now);
        int before = allCrossings();
        now.exchange(row, place);
        return allCrossings() - before + SWAP_MARK;
    }

    public int byParents(int row) throws IndexOutOfBoundsException {
        if (!isRow(row)) {
            throw new IndexOutOfBoundsException("no such row");
        }
        saved.push(now);
        return parentOrder.lay(now, row);
    }

    public int untangle(int row) throws IndexOutOfBoundsException {
        if (!isRow(row)) {
            throw new IndexOutOfBoundsException("no such row");
        }
        saved.push(now);
        search.prepare(now, row);
        int fewest = search.leastByAllOrders();
        search.layBest(now, row);
        return fewest;
    }

    // ---- texts, snapshots

    public int append(int code) throws IllegalArgumentException, IllegalStateException {
        if (code < FIRST_CODE || code > LAST_CODE) {
            throw new IllegalArgumentException("the code is not 33 to 126");
        }
        if (text.isFull()) {
            throw new IllegalStateException("the buffer is full");
        }
        return text.add(code);
    }

    public int clearBuffer() {
        return text.empty();
    }

    public int firstError() {
        return text.firstBad();
    }

    public int run() throws IllegalArgumentException {
        if (!text.isWhole()) {
            throw new IllegalArgumentException("the buffer tells no chronicle");
        }
        saved.push(now);
        int done = 0;
        text.startReading();
        while (done < MAX_TEXT && text.readItem() && doItem()) {
            done++;
        }
        text.empty();
        return done;
    }

    public int keep(int slot) throws IllegalArgumentException {
        if (!isSlot(slot)) {
            throw new IllegalArgumentException("no such slot");
        }
        slots[slot].copyFrom(now);
        kept[slot] = true;
        return now.people();
    }

    public int goBack(int slot) throws IllegalArgumentException, IllegalStateException {
        if (!isSlot(slot)) {
            throw new IllegalArgumentException("no such slot");
        }
        if (!kept[slot]) {
            throw new IllegalStateException("no snapshot in the slot");
        }
        saved.push(now);
        now.copyFrom(slots[slot]);
        return now.people();
    }

    public int undo() throws IllegalStateException {
        if (saved.size() == 0) {
            throw new IllegalStateException("no saved state");
        }
        saved.popTo(now);
        return saved.size();
    }

    // ---- looks; nothing is changed

    public int personOf(int person, int what) throws IndexOutOfBoundsException, IllegalArgumentException {
        if (!now.isPerson(person)) {
            throw new IndexOutOfBoundsException("no such person");
        }
        switch (what) {
            case 0: return now.rowOf(person);
            case 1: return now.placeOf(person);
            case 2: return now.parentsOf(person);
            case 3: return now.couplesWith(person);
            case 4: return now.childrenWith(person);
            case 5: return Integer.bitCount(Descent.descendants(now, person));
            case 6: return Integer.bitCount(Descent.ancestors(now, person));
            default: throw new IllegalArgumentException("what is not 0 to 6");
        }
    }

    public int coupleOf(int couple, int what) throws IndexOutOfBoundsException, IllegalArgumentException {
        if (!now.isCouple(couple)) {
            throw new IndexOutOfBoundsException("no such couple");
        }
        switch (what) {
            case 0: return now.lesserOf(couple);
            case 1: return now.greaterOf(couple);
            case 2: return now.rowOf(now.lesserOf(couple));
            case 3: return now.middleOf(couple);
            case 4: return now.childrenOf(couple);
            case 5: return Integer.bitCount(Descent.commonAncestors(now, couple));
            default: throw new IllegalArgumentException("what is not 0 to 5");
        }
    }

    public int at(int row, int place) throws IndexOutOfBoundsException, IllegalArgumentException {
        if (!isRow(row)) {
            throw new IndexOutOfBoundsException("no such row");
        }
        if (place < 0) {
            throw new IllegalArgumentException("place is below 0");
        }
        return now.personAt(row, place);
    }

    public int crossings(int row, int what) throws IndexOutOfBoundsException, IllegalArgumentException {
        if (!isRow(row)) {
            throw new IndexOutOfBoundsException("no such row");
        }
        if (what != 0 && what != 1) {
            throw new IllegalArgumentException("what is not 0 or 1");
        }
        lines.collect(now, row);
        return what == 0 ? lines.crossedPairs() : lines.crossedOneByOne();
    }

    public int count(int what) throws IllegalArgumentException {
        switch (what) {
            case 0: return now.people();
            case 1: return now.couples();
            case 2: return now.lines();
            case 3: return allCrossings();
            case 4: return now.bentLines();
            case 5: return now.doubles();
            case 6: return Descent.kinCouples(now);
            case 7: return now.refused();
            case 8: return saved.size();
            default: throw new IllegalArgumentException("what is not 0 to 8");
        }
    }

    // ---- what would be; nothing is changed

    public int least(int row, int what) throws IndexOutOfBoundsException, IllegalArgumentException {
        if (!isRow(row)) {
            throw new IndexOutOfBoundsException("no such row");
        }
        if (what != 0 && what != 1) {
            throw new IllegalArgumentException("what is not 0 or 1");
        }
        search.prepare(now, row);
        return what == 0 ? search.leastByAllOrders() : search.leastByLaying();
    }

    public int bestSwap() {
        int fewest = allCrossings();
        int best = NONE;
        for (int row = 0; row < ROWS; row++) {
            for (int place = 0; place < now.sizeOf(row) - 1; place++) {
                now.exchange(row, place);
                int then = allCrossings();
                now.exchange(row, place);
                if (then < fewest) {
                    fewest = then;
                    best = 10 * row + place;
                }
            }
        }
        return best;
    }

    public int nearness(int person, int other) throws IndexOutOfBoundsException {
        if (!now.isPerson(person) || !now.isPerson(other)) {
            throw new IndexOutOfBoundsException("no such person");
        }
        return Descent.fewestLines(now, person, other);
    }

    public double straightShare() {
        int all = now.lines();
        if (all == 0) {
            return 1.0;
        }
        return (double) (all - now.bentLines()) / all;
    }

    public long digest() {
        long hash = HASH_START;
        for (int what = 0; what <= 8; what++) {
            hash = 31 * hash + count(what);
        }
        hash = hashPeopleAndCouples(hash);
        hash = hashRows(hash);
        for (int row = 0; row < ROWS; row++) {
            hash = 31 * hash + least(row, 0);
            hash = 31 * hash + least(row, 1);
        }
        hash = 31 * hash + bestSwap();
        for (int person = 0; person < now.people(); person++) {
            hash = 31 * hash + nearness(0, person);
        }
        hash = 31 * hash + bitsOfShare(straightShare());
        for (int slot = 0; slot < SLOTS; slot++) {
            hash = 31 * hash + (kept[slot] ? 1 : 0);
        }
        hash = 31 * hash + text.length();
        for (int index = 0; index < text.length(); index++) {
            hash = 31 * hash + text.codeAt(index);
        }
        return hash;
    }

    private long hashPeopleAndCouples(long start) {
        long hash = start;
        for (int person = 0; person < now.people(); person++) {
            for (int what = 0; what <= 6; what++) {
                hash = 31 * hash + personOf(person, what);
            }
        }
        for (int couple = 0; couple < now.couples(); couple++) {
            for (int what = 0; what <= 5; what++) {
                hash = 31 * hash + coupleOf(couple, what);
            }
        }
        return hash;
    }

    private long hashRows(long start) {
        long hash = start;
        for (int row = 0; row < ROWS; row++) {
            for (int place = 0; place < WIDTH; place++) {
                hash = 31 * hash + at(row, place);
            }
            hash = 31 * hash + crossings(row, 0);
            hash = 31 * hash + crossings(row, 1);
        }
        return hash;
    }

    /**
     * The bits as Double.doubleToLongBits tells them, which the language
     * leaves out. Doubling and taking 1 away are exact for a share of 0 to 1.
     */
    private static long bitsOfShare(double share) {
        if (share <= 0.0) {
            return 0L;
        }
        double scaled = share;
        int exponent = 1023;
        while (scaled < 1.0 && exponent > 1) {
            scaled = scaled * 2.0;
            exponent--;
        }
        long fraction = (long) ((scaled - 1.0) * (double) (1L << 52));
        return ((long) exponent << 52) | fraction;
    }

    private static boolean isRow(int row) {
        return row >= 0 && row < ROWS;
    }

    private static boolean isSlot(int slot) {
        return slot >= 0 && slot < SLOTS;
    }

    private int allCrossings() {
        int crossed = 0;
        for (int row = 0; row < ROWS; row++) {
            lines.collect(now, row);
            crossed += lines.crossedPairs();
        }
        return crossed;
    }

    /** Tells if the item that was read could be done. */
    private boolean doItem() {
        int first = text.firstNumber();
        int second = text.secondNumber();
        switch (text.itemKind()) {
            case TextBuffer.COUPLE_ITEM:
                return now.isPerson(first) && now.isPerson(second) && first != second
                        && now.addCouple(first, second) >= COUPLE_MARK;
            case TextBuffer.CHILD_ITEM:
                return now.isCouple(first) && now.addChild(first) != NONE;
            default:
                return isRow(first) && now.addPerson(first, NONE) != NONE;
        }
    }

    /** All that a snapshot and a saved state hold. */
    private static final class State {
        private final int[] rows = new int[MAX_PEOPLE];
        private final int[] places = new int[MAX_PEOPLE];
        private final int[] parents = new int[MAX_PEOPLE];
        private final int[] lessers = new int[MAX_COUPLES];
        private final int[] greaters = new int[MAX_COUPLES];
        /** Who stands where: row after row, WIDTH places each. */
        private final int[] orders = new int[ROWS * WIDTH];
        private final int[] sizes = new int[ROWS];
        private int people;
        private int couples;
        private int refused;

        void copyFrom(State other) {
            System.arraycopy(other.rows, 0, rows, 0, MAX_PEOPLE);
            System.arraycopy(other.places, 0, places, 0, MAX_PEOPLE);
            System.arraycopy(other.parents, 0, parents, 0, MAX_PEOPLE);
            System.arraycopy(other.lessers, 0, lessers, 0, MAX_COUPLES);
            System.arraycopy(other.greaters, 0, greaters, 0, MAX_COUPLES);
            System.arraycopy(other.orders, 0, orders, 0, ROWS * WIDTH);
            System.arraycopy(other.sizes, 0, sizes, 0, ROWS);
            people = other.people;
            couples = other.couples;
            refused = other.refused;
        }

        int people() {
            return people;
        }

        int couples() {
            return couples;
        }

        int refused() {
            return refused;
        }

        boolean isPerson(int person) {
            return person >= 0 && person < people;
        }

        boolean isCouple(int couple) {
            return couple >= 0 && couple < couples;
        }

        int sizeOf(int row) {
            return row >= 0 && row < ROWS ? sizes[row] : 0;
        }

        int rowOf(int person) {
            return isPerson(person) ? rows[person] : NONE;
        }

        int placeOf(int person) {
            return isPerson(person) ? places[person] : NONE;
        }

        int parentsOf(int person) {
            return isPerson(person) ? parents[person] : NONE;
        }

        int lesserOf(int couple) {
            return isCouple(couple) ? lessers[couple] : NONE;
        }

        int greaterOf(int couple) {
            return isCouple(couple) ? greaters[couple] : NONE;
        }

        int personAt(int row, int place) {
            return place >= 0 && place < sizeOf(row) ? orders[row * WIDTH + place] : NONE;
        }

        int middleOf(int couple) {
            return isCouple(couple) ? placeOf(lessers[couple]) + placeOf(greaters[couple]) : NONE;
        }

        /** The middle of a person's parents. */
        int middleAbove(int person) {
            return middleOf(parentsOf(person));
        }

        int addPerson(int row, int couple) {
            int place = sizeOf(row);
            if (row < 0 || row >= ROWS || place >= WIDTH || people >= MAX_PEOPLE) {
                refused++;
                return NONE;
            }
            int person = people;
            people++;
            sizes[row]++;
            rows[person] = row;
            parents[person] = couple;
            lay(row, place, person);
            return person;
        }

        int addChild(int couple) {
            return addPerson(rowOf(lesserOf(couple)) + 1, couple);
        }

        int addCouple(int person, int other) {
            int reason = reasonAgainst(person, other);
            if (reason != 0) {
                refused++;
                return reason;
            }
            int couple = couples;
            couples++;
            lessers[couple] = Math.min(person, other);
            greaters[couple] = Math.max(person, other);
            return couple + COUPLE_MARK;
        }

        private int reasonAgainst(int person, int other) {
            if (couples >= MAX_COUPLES) {
                return 1;
            }
            if (rowOf(person) != rowOf(other) || rowOf(person) == LAST_ROW) {
                return 2;
            }
            if (areCouple(Math.min(person, other), Math.max(person, other))) {
                return 3;
            }
            if (isDouble(person) || isDouble(other)) {
                return 4;
            }
            return 0;
        }

        private boolean areCouple(int lesser, int greater) {
            for (int couple = 0; couple < couples; couple++) {
                if (lessers[couple] == lesser && greaters[couple] == greater) {
                    return true;
                }
            }
            return false;
        }

        private boolean isDouble(int person) {
            return couplesWith(person) >= COUPLES_OF_DOUBLE;
        }

        void lay(int row, int place, int person) {
            if (isPerson(person) && place >= 0 && place < sizeOf(row)) {
                orders[row * WIDTH + place] = person;
                places[person] = place;
            }
        }

        void exchange(int row, int left) {
            int first = personAt(row, left);
            int second = personAt(row, left + 1);
            if (first != NONE && second != NONE) {
                lay(row, left, second);
                lay(row, left + 1, first);
            }
        }

        int couplesWith(int person) {
            int found = 0;
            for (int couple = 0; couple < couples; couple++) {
                if (lessers[couple] == person || greaters[couple] == person) {
                    found++;
                }
            }
            return found;
        }

        int childrenOf(int couple) {
            int found = 0;
            for (int person = 0; person < people; person++) {
                if (parents[person] == couple) {
                    found++;
                }
            }
            return found;
        }

        int childrenWith(int person) {
            int found = 0;
            for (int couple = 0; couple < couples; couple++) {
                if (lessers[couple] == person || greaters[couple] == person) {
                    found += childrenOf(couple);
                }
            }
            return found;
        }

        /** Each person with parents has one line. */
        int lines() {
            return people - childrenOf(NONE);
        }

        int bentLines() {
            int bent = 0;
            for (int person = 0; person < people; person++) {
                if (parents[person] != NONE && middleAbove(person) != 2 * places[person]) {
                    bent++;
                }
            }
            return bent;
        }

        int doubles() {
            int found = 0;
            for (int person = 0; person < people; person++) {
                if (isDouble(person)) {
                    found++;
                }
            }
            return found;
        }
    }

    /** The states that undo() restores; in a ring, as the oldest one goes first. */
    private static final class SavedStates {
        private final State[] ring = new State[MAX_SAVED];
        private int oldest;
        private int size;

        SavedStates() {
            for (int index = 0; index < MAX_SAVED; index++) {
                ring[index] = new State();
            }
        }

        int size() {
            return size;
        }

        void push(State state) {
            ring[(oldest + size) % MAX_SAVED].copyFrom(state);
            if (size < MAX_SAVED) {
                size++;
            } else {
                oldest = (oldest + 1) % MAX_SAVED;
            }
        }

        void popTo(State state) {
            if (size > 0) {
                size--;
                state.copyFrom(ring[(oldest + size) % MAX_SAVED]);
            }
        }
    }

    /** The input text: its signs, its syntax, and the items that it tells. */
    private static final class TextBuffer {
        static final int PERSON_ITEM = 0;
        static final int COUPLE_ITEM = 1;
        static final int CHILD_ITEM = 2;

        // What stands behind the signs that were read so far.
        private static final int START = 0;
        private static final int ITEM = 1;
        private static final int PLUS = 2;
        private static final int FIRST_ONE = 3;
        private static final int FIRST = 4;
        private static final int AND = 5;
        private static final int SECOND_ONE = 6;
        private static final int CARET = 7;
        private static final int BROKEN = 8;

        private final int[] codes = new int[MAX_TEXT];
        private int length;
        private int reading;
        private int kind;
        private int first;
        private int second;

        int length() {
            return length;
        }

        boolean isFull() {
            return length >= MAX_TEXT;
        }

        int codeAt(int index) {
            return index >= 0 && index < length ? codes[index] : NONE;
        }

        int add(int code) {
            if (length < MAX_TEXT) {
                codes[length] = code;
                length++;
            }
            return length;
        }

        int empty() {
            int had = length;
            length = 0;
            return had;
        }

        int firstBad() {
            int state = START;
            for (int index = 0; index < length; index++) {
                state = stateBehind(state, codes[index]);
                if (state == BROKEN) {
                    return index;
                }
            }
            return length;
        }

        boolean isWhole() {
            int state = START;
            for (int index = 0; index < length; index++) {
                state = stateBehind(state, codes[index]);
            }
            return state == ITEM || state == SECOND_ONE;
        }

        private static int stateBehind(int state, int code) {
            switch (state) {
                case START: return stateBehindStart(code);
                case ITEM: return code == ';' ? START : BROKEN;
                case PLUS: return stateBehindDigit(code, FIRST_ONE, FIRST);
                case FIRST_ONE:
                    if (isDigit(code)) {
                        return FIRST;
                    }
                    return code == '&' ? AND : BROKEN;
                case FIRST: return code == '&' ? AND : BROKEN;
                case AND: return stateBehindDigit(code, SECOND_ONE, ITEM);
                case SECOND_ONE:
                    if (isDigit(code)) {
                        return ITEM;
                    }
                    return code == ';' ? START : BROKEN;
                case CARET: return isDigit(code) ? ITEM : BROKEN;
                default: return BROKEN;
            }
        }

        private static int stateBehindStart(int code) {
            if (code >= '0' && code < '0' + ROWS) {
                return ITEM;
            }
            if (code == '+') {
                return PLUS;
            }
            return code == '^' ? CARET : BROKEN;
        }

        /** Only behind a 1 may a number go on, as it is at most 19. */
        private static int stateBehindDigit(int code, int behindOne, int behindOther) {
            if (!isDigit(code)) {
                return BROKEN;
            }
            return code == '1' ? behindOne : behindOther;
        }

        private static boolean isDigit(int code) {
            return code >= '0' && code <= '9';
        }

        void startReading() {
            reading = 0;
        }

        /** Reads the next item of a whole text; false if there is none. */
        boolean readItem() {
            int sign = codeAt(reading);
            if (sign == NONE) {
                return false;
            }
            if (sign == '+') {
                kind = COUPLE_ITEM;
                reading++;
                first = readNumber();
                reading++;
                second = readNumber();
            } else if (sign == '^') {
                kind = CHILD_ITEM;
                reading++;
                first = readNumber();
            } else {
                kind = PERSON_ITEM;
                first = readNumber();
            }
            reading++;
            return true;
        }

        private int readNumber() {
            int number = 0;
            while (isDigit(codeAt(reading)) && reading < length) {
                number = 10 * number + codeAt(reading) - '0';
                reading++;
            }
            return number;
        }

        int itemKind() {
            return kind;
        }

        int firstNumber() {
            return first;
        }

        int secondNumber() {
            return second;
        }
    }

    /** The lines to one row, in the order of their children. */
    private static final class RowLines {
        private final int[] middles = new int[WIDTH];
        private final int[] places = new int[WIDTH];
        private int size;

        void collect(State state, int row) {
            size = 0;
            for (int place = 0; place < state.sizeOf(row) && place < WIDTH; place++) {
                int middle = state.middleAbove(state.personAt(row, place));
                if (middle != NONE) {
                    middles[size] = middle;
                    places[size] = place;
                    size++;
                }
            }
        }

        int crossedPairs() {
            int crossed = 0;
            for (int left = 0; left < size; left++) {
                for (int right = left + 1; right < size; right++) {
                    if (middles[right] < middles[left]) {
                        crossed++;
                    }
                }
            }
            return crossed;
        }

        int crossedOneByOne() {
            sortByMiddles();
            int crossed = 0;
            for (int line = 0; line < size; line++) {
                for (int there = 0; there < line; there++) {
                    if (middles[there] < middles[line] && places[there] > places[line]) {
                        crossed++;
                    }
                }
            }
            return crossed;
        }

        /** Lines of the same middle stay as they are: by rising places. */
        private void sortByMiddles() {
            for (int line = 1; line < size; line++) {
                int middle = middles[line];
                int place = places[line];
                int to = line;
                while (to > 0 && middles[to - 1] > middle) {
                    middles[to] = middles[to - 1];
                    places[to] = places[to - 1];
                    to--;
                }
                middles[to] = middle;
                places[to] = place;
            }
        }
    }

    /** Orders a row by parents. */
    private static final class ParentOrder {
        private final int[] keys = new int[WIDTH];
        private final int[] order = new int[WIDTH];

        /** Tells how many people get another place. */
        int lay(State state, int row) {
            int size = Math.min(state.sizeOf(row), WIDTH);
            for (int place = 0; place < size; place++) {
                int middle = state.middleAbove(state.personAt(row, place));
                keys[place] = middle == NONE ? MORE_THAN_ANY : middle;
            }
            int moved = 0;
            for (int place = 0; place < size; place++) {
                int to = placeByKey(place, size);
                order[to] = state.personAt(row, place);
                if (to != place) {
                    moved++;
                }
            }
            for (int place = 0; place < size; place++) {
                state.lay(row, place, order[place]);
            }
            return moved;
        }

        /** As many as come before: of lesser keys, or of the same one and further to the left. */
        private int placeByKey(int place, int size) {
            int before = 0;
            for (int other = 0; other < size; other++) {
                if (keys[other] < keys[place] || (keys[other] == keys[place] && other < place)) {
                    before++;
                }
            }
            return before;
        }
    }

    /** Finds the least crossings of a row: of the lines to it and from it. */
    private static final class RowSearch {
        /** The people of the row, from the left, by their numbers. */
        private final int[] order = new int[WIDTH];
        private final int[] bestOrder = new int[WIDTH];
        private final int[] places = new int[MAX_PEOPLE];
        /** For each person a bit for each one whose line crosses if that one is to the left. */
        private final int[] crossedFromLeft = new int[MAX_PEOPLE];
        /** The couples that have children, by the order in which these are found. */
        private final int[] couples = new int[WIDTH];
        private final int[] lessers = new int[WIDTH];
        private final int[] greaters = new int[WIDTH];
        private final int[] middles = new int[WIDTH];
        /** For each place of the row behind: the index of the parents in couples. */
        private final int[] parentIndexes = new int[WIDTH];
        /** How many lines cross if the middle of the one couple is less than that of the other. */
        private final int[][] crossedIfLess = new int[WIDTH][WIDTH];
        private int size;
        private int coupleCount;
        private int fewest;

        /** Notes what no order of the row changes. */
        void prepare(State state, int row) {
            listPeople(state, row);
            noteLinesTo(state);
            listCouples(state, row + 1);
            noteLinesFrom(state.sizeOf(row + 1));
        }

        /** By rising numbers, so that this is the first order of all. */
        private void listPeople(State state, int row) {
            size = 0;
            for (int person = 0; person < state.people() && size < WIDTH; person++) {
                if (state.rowOf(person) == row) {
                    order[size] = person;
                    size++;
                }
            }
        }

        private void noteLinesTo(State state) {
            for (int right = 0; right < size; right++) {
                int middle = state.middleAbove(order[right]);
                int crossed = 0;
                for (int left = 0; left < size && middle != NONE; left++) {
                    if (state.middleAbove(order[left]) > middle) {
                        crossed |= 1 << order[left];
                    }
                }
                crossedFromLeft[order[right]] = crossed;
            }
        }

        private void listCouples(State state, int rowBehind) {
            coupleCount = 0;
            for (int place = 0; place < state.sizeOf(rowBehind) && place < WIDTH; place++) {
                int couple = state.parentsOf(state.personAt(rowBehind, place));
                parentIndexes[place] = couple == NONE ? NONE : indexOfCouple(state, couple);
            }
        }

        private int indexOfCouple(State state, int couple) {
            for (int index = 0; index < coupleCount; index++) {
                if (couples[index] == couple) {
                    return index;
                }
            }
            if (coupleCount >= WIDTH) {
                return NONE;
            }
            int index = coupleCount;
            coupleCount++;
            couples[index] = couple;
            lessers[index] = state.lesserOf(couple);
            greaters[index] = state.greaterOf(couple);
            return index;
        }

        private void noteLinesFrom(int children) {
            for (int index = 0; index < coupleCount; index++) {
                for (int other = 0; other < coupleCount; other++) {
                    crossedIfLess[index][other] = 0;
                }
            }
            for (int left = 0; left < children; left++) {
                for (int right = left + 1; right < children; right++) {
                    if (parentIndexes[left] != NONE && parentIndexes[right] != NONE) {
                        crossedIfLess[parentIndexes[right]][parentIndexes[left]]++;
                    }
                }
            }
        }

        int leastByAllOrders() {
            fewest = MORE_THAN_ANY;
            boolean more = true;
            for (int tried = 0; tried < MAX_ORDERS && more; tried++) {
                int crossed = crossingsOfFirst(size);
                if (crossed < fewest) {
                    fewest = crossed;
                    System.arraycopy(order, 0, bestOrder, 0, WIDTH);
                }
                more = goToNextOrder();
            }
            return fewest;
        }

        void layBest(State state, int row) {
            for (int place = 0; place < size; place++) {
                state.lay(row, place, bestOrder[place]);
            }
        }

        /** The next order as they are compared by numbers, from the left; false behind the last one. */
        private boolean goToNextOrder() {
            int left = size - 2;
            while (left >= 0 && order[left] > order[left + 1]) {
                left--;
            }
            if (left < 0) {
                return false;
            }
            int right = size - 1;
            while (right > left + 1 && order[right] < order[left]) {
                right--;
            }
            exchange(left, right);
            int from = left + 1;
            int to = size - 1;
            while (from < to) {
                exchange(from, to);
                from++;
                to--;
            }
            return true;
        }

        int leastByLaying() {
            fewest = MORE_THAN_ANY;
            layOn(this, 0);
            return fewest;
        }

        /** Lays the people behind the first ones that are laid, in all ways that may be better. */
        private static void layOn(RowSearch search, int laid) {
            int crossed = search.crossingsOfFirst(laid);
            if (crossed >= search.fewest) {
                return;
            }
            if (laid >= search.size || laid >= WIDTH) {
                search.fewest = crossed;
                return;
            }
            for (int next = laid; next < search.size; next++) {
                search.exchange(laid, next);
                layOn(search, laid + 1);
                search.exchange(laid, next);
            }
        }

        private void exchange(int place, int other) {
            int person = order[place];
            order[place] = order[other];
            order[other] = person;
        }

        /** The crossings of the lines to and from the first ones of the order. */
        private int crossingsOfFirst(int laid) {
            int crossed = 0;
            int there = 0;
            for (int place = 0; place < laid; place++) {
                int person = order[place];
                crossed += Integer.bitCount(there & crossedFromLeft[person]);
                there |= 1 << person;
                places[person] = place;
            }
            return crossed + crossingsFrom(there);
        }

        /** The crossings of the lines from couples of which both are there. */
        private int crossingsFrom(int there) {
            int crossed = 0;
            for (int index = 0; index < coupleCount; index++) {
                int both = (1 << lessers[index]) | (1 << greaters[index]);
                middles[index] = (there & both) == both ? places[lessers[index]] + places[greaters[index]] : NONE;
                for (int other = 0; other < index && middles[index] != NONE; other++) {
                    if (middles[other] == NONE) {
                        continue;
                    }
                    if (middles[other] < middles[index]) {
                        crossed += crossedIfLess[other][index];
                    } else if (middles[index] < middles[other]) {
                        crossed += crossedIfLess[index][other];
                    }
                }
            }
            return crossed;
        }
    }

    /** Who descends from whom; people as sets of bits, each by its number. */
    private static final class Descent {
        private static int parentBits(State state, int person) {
            int couple = state.parentsOf(person);
            if (couple == NONE) {
                return 0;
            }
            return (1 << state.lesserOf(couple)) | (1 << state.greaterOf(couple));
        }

        /** Parents have lesser numbers than their child, so that one way down finds all. */
        static int ancestors(State state, int person) {
            int found = parentBits(state, person);
            for (int other = person - 1; other >= 0; other--) {
                if ((found & (1 << other)) != 0) {
                    found |= parentBits(state, other);
                }
            }
            return found;
        }

        static int descendants(State state, int person) {
            int line = 1 << person;
            for (int other = person + 1; other < state.people(); other++) {
                if ((parentBits(state, other) & line) != 0) {
                    line |= 1 << other;
                }
            }
            return line & ~(1 << person);
        }

        static int commonAncestors(State state, int couple) {
            return ancestors(state, state.lesserOf(couple)) & ancestors(state, state.greaterOf(couple));
        }

        static int kinCouples(State state) {
            int found = 0;
            for (int couple = 0; couple < state.couples(); couple++) {
                if (commonAncestors(state, couple) != 0) {
                    found++;
                }
            }
            return found;
        }

        /** Each line leads from one row to the next, so that rows tell how many there are. */
        static int fewestLines(State state, int person, int other) {
            int common = (ancestors(state, person) | (1 << person)) & (ancestors(state, other) | (1 << other));
            int fewest = NONE;
            for (int ancestor = 0; ancestor < state.people(); ancestor++) {
                if ((common & (1 << ancestor)) != 0) {
                    int lines = state.rowOf(person) + state.rowOf(other) - 2 * state.rowOf(ancestor);
                    if (fewest == NONE || lines < fewest) {
                        fewest = lines;
                    }
                }
            }
            return fewest;
        }
    }
}
