/**
 * Rows that are veiled by who asks, and questions over them that may be refused.
 * What each call promises stands in ../shared/DOC.md; what the file may use, in ../shared/LANGUAGE.md.
 */
public final class RowVeils {
    public static final int NONE = -1;

    private static final int MOST_ROWS = 16;
    private static final int PEOPLE = 5;
    private static final int PLACES = 4;
    private static final int RULES = 4;
    private static final int SETTINGS = 3;
    private static final int MOST_RANK = 3;
    private static final int MOST_SECRECY = 3;
    private static final int MOST_VALUE = 99;
    private static final int VEILED_VALUE = 90;
    private static final int MOST_REMEMBERED = 6;
    private static final int MOST_SAVED = 6;
    private static final int MOST_CODES = 60;
    private static final int LEAST_CODE = 33;
    private static final int MOST_CODE = 126;

    private static final int LEAST_COUNT = 0;
    private static final int COARSENESS = 1;
    private static final int DIFFERENCES = 2;
    private static final int MOST_COARSENESS = 9;

    private final State state;
    private final History history;
    private final Buffer buffer;

    public RowVeils() {
        state = new State();
        history = new History();
        buffer = new Buffer();
    }

    // ---- rows, people, rules

    public int row(int owner, int place, int value, int secrecy)
            throws IndexOutOfBoundsException, IllegalArgumentException, IllegalStateException {
        if (!isPerson(owner) || !isPlace(place)) {
            throw new IndexOutOfBoundsException("no such owner or place");
        }
        if (!isValue(value) || !isWithin(secrecy, 0, MOST_SECRECY)) {
            throw new IllegalArgumentException("value or secrecy is out of range");
        }
        if (state.rows.isFull()) {
            throw new IllegalStateException("there are 16 rows");
        }
        history.save(state);
        int number = state.rows.size;
        state.rows.place(owner, place, value, secrecy);
        return number;
    }

    public int drop(int row) throws IndexOutOfBoundsException {
        requireRow(row);
        history.save(state);
        state.rows.takeOut(row);
        state.memory.takeOut(row);
        return state.rows.size;
    }

    public int change(int row, int value) throws IndexOutOfBoundsException, IllegalArgumentException {
        requireRow(row);
        if (!isValue(value)) {
            throw new IllegalArgumentException("value is out of range");
        }
        history.save(state);
        return state.rows.values.swap(row, value);
    }

    public int person(int person, int rank, int home) throws IndexOutOfBoundsException, IllegalArgumentException {
        if (!isPerson(person) || !isPlace(home)) {
            throw new IndexOutOfBoundsException("no such person or place");
        }
        if (!isWithin(rank, 0, MOST_RANK)) {
            throw new IllegalArgumentException("rank is out of range");
        }
        history.save(state);
        state.people.homes.put(person, home);
        return state.people.ranks.swap(person, rank);
    }

    public int master(int person, int master) throws IndexOutOfBoundsException, IllegalArgumentException {
        if (!isPerson(person) || (master != NONE && !isPerson(master))) {
            throw new IndexOutOfBoundsException("no such person");
        }
        if (person == master) {
            throw new IllegalArgumentException("nobody is their own master");
        }
        history.save(state);
        return state.people.masters.swap(person, master);
    }

    public int force(int rule, boolean is) throws IndexOutOfBoundsException {
        requireRule(rule);
        history.save(state);
        int was = (state.rules >> rule) & 1;
        int bit = 1 << rule;
        state.rules = is ? state.rules | bit : state.rules & ~bit;
        return was;
    }

    public int set(int setting, int value) throws IndexOutOfBoundsException, IllegalArgumentException {
        if (!isWithin(setting, 0, SETTINGS - 1)) {
            throw new IndexOutOfBoundsException("no such setting");
        }
        boolean fits = setting == DIFFERENCES ? isWithin(value, 0, 1) : isWithin(value, 1, MOST_COARSENESS);
        if (!fits) {
            throw new IllegalArgumentException("value is out of range");
        }
        history.save(state);
        return state.settings.swap(setting, value);
    }

    // ---- questions

    public int ask(int asker, int place, int least, int greatest)
            throws IndexOutOfBoundsException, IllegalArgumentException {
        requireQuestion(asker, place, least, greatest);
        history.save(state);
        int mask = state.seenRows(asker, place, least, greatest);
        int answer = state.countAnswer(asker, mask);
        state.tallies.note(asker, answer == NONE);
        if (answer != NONE) {
            // The question must be looked at before it is itself among those remembered.
            if (state.memory.givesAway(asker, mask)) {
                state.tallies.givenAway++;
            }
            state.memory.keep(asker, mask);
        }
        return answer;
    }

    public int askSum(int asker, int place, int least, int greatest)
            throws IndexOutOfBoundsException, IllegalArgumentException {
        requireQuestion(asker, place, least, greatest);
        history.save(state);
        int answer = state.sumAnswer(state.seenRows(asker, place, least, greatest));
        state.tallies.note(asker, answer == NONE);
        return answer;
    }

    public int forget(int asker) throws IndexOutOfBoundsException {
        requireAsker(asker);
        history.save(state);
        return state.memory.kept.swap(asker, 0);
    }

    // ---- texts

    public int append(int code) throws IllegalArgumentException, IllegalStateException {
        if (!isWithin(code, LEAST_CODE, MOST_CODE)) {
            throw new IllegalArgumentException("code is not 33 to 126");
        }
        if (buffer.isFull()) {
            throw new IllegalStateException("the buffer has 60 characters");
        }
        buffer.put(code);
        return buffer.length;
    }

    public int clearBuffer() {
        return buffer.empty();
    }

    public int firstError() {
        return buffer.errorIndex();
    }

    public int rows() throws IllegalArgumentException {
        if (!buffer.isComplete()) {
            throw new IllegalArgumentException("the buffer is not complete rows as a text");
        }
        history.save(state);
        int come = buffer.readInto(state.rows);
        buffer.empty();
        return come;
    }

    public int undo() throws IllegalStateException {
        if (history.held == 0) {
            throw new IllegalStateException("no state is saved");
        }
        history.restore(state);
        return history.held;
    }

    // ---- looks; nothing is changed

    public int rowOf(int row, int what) throws IndexOutOfBoundsException, IllegalArgumentException {
        requireRow(row);
        if (!isWithin(what, 0, 4)) {
            throw new IllegalArgumentException("what is not 0 to 4");
        }
        return state.rowNumber(row, what);
    }

    public int personOf(int person, int what) throws IndexOutOfBoundsException, IllegalArgumentException {
        requireAsker(person);
        if (!isWithin(what, 0, 7)) {
            throw new IllegalArgumentException("what is not 0 to 7");
        }
        return state.personNumber(person, what);
    }

    public int veils(int asker, int row) throws IndexOutOfBoundsException {
        requireAsker(asker);
        requireRow(row);
        return state.veilMask(asker, row);
    }

    public int remembered(int asker, int place) throws IndexOutOfBoundsException, IllegalArgumentException {
        requireAsker(asker);
        if (place < 0) {
            throw new IllegalArgumentException("place is below 0");
        }
        return state.memory.maskAt(asker, place);
    }

    public int count(int what) throws IllegalArgumentException {
        if (!isWithin(what, 0, 9)) {
            throw new IllegalArgumentException("what is not 0 to 9");
        }
        return total(what);
    }

    // ---- what would be; nothing is changed, remembered or counted

    public int ifAsked(int asker, int place, int least, int greatest, int what)
            throws IndexOutOfBoundsException, IllegalArgumentException {
        requireQuestion(asker, place, least, greatest);
        if (!isWithin(what, 0, 3)) {
            throw new IllegalArgumentException("what is not 0 to 3");
        }
        return answerIf(asker, place, least, greatest, what);
    }

    public int hides(int rule) throws IndexOutOfBoundsException {
        requireRule(rule);
        return state.hiddenByAlone(rule);
    }

    public int blindest() {
        return state.whoSeesFewest();
    }

    public int needed(int asker, int place) throws IndexOutOfBoundsException {
        if (!isPerson(asker) || !isPlaceOrAll(place)) {
            throw new IndexOutOfBoundsException("no such asker or place");
        }
        return state.leastCoarseness(asker, place);
    }

    public double openness() {
        return state.shareSeen();
    }

    public long digest() {
        long hash = 3469L;
        for (int what = 0; what <= 9; what++) {
            hash = mixed(hash, total(what));
        }
        for (int row = 0; row < state.rows.size; row++) {
            hash = mixedRow(hash, row);
        }
        for (int person = 0; person < PEOPLE; person++) {
            hash = mixedPerson(hash, person);
        }
        for (int rule = 0; rule < RULES; rule++) {
            hash = mixed(hash, state.hiddenByAlone(rule));
        }
        hash = mixed(hash, state.whoSeesFewest());
        hash = mixed(hash, bitsOfShare(state.shareSeen()));
        return mixedBuffer(hash);
    }

    // ---- the parts of the digest

    private static long mixed(long hash, long value) {
        return 31L * hash + value;
    }

    private long mixedRow(long hash, int row) {
        long mixing = hash;
        for (int what = 0; what <= 4; what++) {
            mixing = mixed(mixing, state.rowNumber(row, what));
        }
        return mixing;
    }

    private long mixedPerson(long hash, int person) {
        long mixing = hash;
        for (int what = 0; what <= 7; what++) {
            mixing = mixed(mixing, state.personNumber(person, what));
        }
        for (int place = 0; place < state.memory.kept.get(person); place++) {
            mixing = mixed(mixing, state.memory.maskAt(person, place));
        }
        for (int what = 0; what <= 3; what++) {
            mixing = mixed(mixing, answerIf(person, NONE, 0, MOST_VALUE, what));
        }
        return mixed(mixing, state.leastCoarseness(person, NONE));
    }

    private long mixedBuffer(long hash) {
        long mixing = mixed(hash, buffer.length);
        for (int i = 0; i < buffer.length; i++) {
            mixing = mixed(mixing, buffer.codes.get(i));
        }
        return mixing;
    }

    /** LANGUAGE.md leaves Double.doubleToLongBits out, so the bits of a share, 0.2 to 1.0, are put together here. */
    private static long bitsOfShare(double share) {
        double leading = share;
        long exponent = 1023L;
        // Each row's owner sees it, so no share is below 1/5, and three doublings, which are exact, are enough.
        for (int i = 0; i < 3 && leading < 1.0; i++) {
            leading = leading * 2.0;
            exponent--;
        }
        return (exponent << 52) | (long) ((leading - 1.0) * 4503599627370496.0);
    }

    // ---- what several calls share

    private int total(int what) {
        switch (what) {
            case 0: return state.rows.size;
            case 1: return state.rules;
            case 2: return state.settings.get(LEAST_COUNT);
            case 3: return state.settings.get(COARSENESS);
            case 4: return state.settings.get(DIFFERENCES);
            case 5: return state.tallies.answers.sum();
            case 6: return state.tallies.refusals.sum();
            case 7: return state.tallies.givenAway;
            case 8: return state.rows.size * PEOPLE - state.pairsSeen();
            default: return history.held;
        }
    }

    private int answerIf(int asker, int place, int least, int greatest, int what) {
        if (what == 3) {
            return state.rows.howManyMatch(place, least, greatest);
        }
        int mask = state.seenRows(asker, place, least, greatest);
        switch (what) {
            case 0: return state.countAnswer(asker, mask);
            case 1: return state.sumAnswer(mask);
            default: return state.memory.givesAway(asker, mask) ? 1 : 0;
        }
    }

    private static boolean isWithin(int number, int least, int greatest) {
        return number >= least && number <= greatest;
    }

    private static boolean isPerson(int person) {
        return isWithin(person, 0, PEOPLE - 1);
    }

    private static boolean isPlace(int place) {
        return isWithin(place, 0, PLACES - 1);
    }

    private static boolean isPlaceOrAll(int place) {
        return place == NONE || isPlace(place);
    }

    private static boolean isValue(int value) {
        return isWithin(value, 0, MOST_VALUE);
    }

    private void requireRow(int row) {
        if (!isWithin(row, 0, state.rows.size - 1)) {
            throw new IndexOutOfBoundsException("no such row");
        }
    }

    private static void requireAsker(int asker) {
        if (!isPerson(asker)) {
            throw new IndexOutOfBoundsException("no such person");
        }
    }

    private static void requireRule(int rule) {
        if (!isWithin(rule, 0, RULES - 1)) {
            throw new IndexOutOfBoundsException("no such rule");
        }
    }

    private static void requireQuestion(int asker, int place, int least, int greatest) {
        if (!isPerson(asker) || !isPlaceOrAll(place)) {
            throw new IndexOutOfBoundsException("no such asker or place");
        }
        if (!isValue(least) || !isWithin(greatest, least, MOST_VALUE)) {
            throw new IllegalArgumentException("least or greatest is out of range");
        }
    }

    /** Numbers whose every index is tested here, in one place, so that the machine never throws over one. */
    private static final class Numbers {
        private final int[] held;

        Numbers(int length, int first) {
            held = new int[length < 0 ? 0 : length];
            for (int i = 0; i < held.length; i++) {
                held[i] = first;
            }
        }

        int get(int index) {
            return index >= 0 && index < held.length ? held[index] : 0;
        }

        void put(int index, int number) {
            if (index >= 0 && index < held.length) {
                held[index] = number;
            }
        }

        /** Puts a number, and returns the one that was there. */
        int swap(int index, int number) {
            int was = get(index);
            put(index, number);
            return was;
        }

        /** Moves what is behind an index, up to an end, one place to the front; what was at the index goes. */
        void closeGap(int index, int end) {
            for (int i = index; i < end - 1; i++) {
                put(i, get(i + 1));
            }
        }

        int sum() {
            int sum = 0;
            for (int i = 0; i < held.length; i++) {
                sum += held[i];
            }
            return sum;
        }

        void copyFrom(Numbers other) {
            for (int i = 0; i < held.length; i++) {
                held[i] = other.get(i);
            }
        }
    }

    private static final class Rows {
        final Numbers owners = new Numbers(MOST_ROWS, 0);
        final Numbers places = new Numbers(MOST_ROWS, 0);
        final Numbers values = new Numbers(MOST_ROWS, 0);
        final Numbers secrecies = new Numbers(MOST_ROWS, 0);
        int size = 0;

        boolean isFull() {
            return size >= MOST_ROWS;
        }

        void place(int owner, int place, int value, int secrecy) {
            owners.put(size, owner);
            places.put(size, place);
            values.put(size, value);
            secrecies.put(size, secrecy);
            size++;
        }

        void takeOut(int row) {
            owners.closeGap(row, size);
            places.closeGap(row, size);
            values.closeGap(row, size);
            secrecies.closeGap(row, size);
            size--;
        }

        boolean isMatching(int row, int place, int least, int greatest) {
            int value = values.get(row);
            return (place == NONE || places.get(row) == place) && value >= least && value <= greatest;
        }

        /** How many rows a question is for, veiled or not. */
        int howManyMatch(int place, int least, int greatest) {
            int many = 0;
            for (int row = 0; row < size; row++) {
                if (isMatching(row, place, least, greatest)) {
                    many++;
                }
            }
            return many;
        }

        void copyFrom(Rows other) {
            owners.copyFrom(other.owners);
            places.copyFrom(other.places);
            values.copyFrom(other.values);
            secrecies.copyFrom(other.secrecies);
            size = other.size;
        }
    }

    private static final class People {
        final Numbers ranks = new Numbers(PEOPLE, 0);
        final Numbers homes = new Numbers(PEOPLE, 0);
        final Numbers masters = new Numbers(PEOPLE, NONE);

        void copyFrom(People other) {
            ranks.copyFrom(other.ranks);
            homes.copyFrom(other.homes);
            masters.copyFrom(other.masters);
        }
    }

    /** The remembered questions, as masks of the rows that they had; six places for each asker. */
    private static final class Memory {
        final Numbers masks = new Numbers(PEOPLE * MOST_REMEMBERED, 0);
        final Numbers kept = new Numbers(PEOPLE, 0);

        void keep(int asker, int mask) {
            int first = asker * MOST_REMEMBERED;
            int many = kept.get(asker);
            if (many >= MOST_REMEMBERED) {
                masks.closeGap(first, first + MOST_REMEMBERED);
                many = MOST_REMEMBERED - 1;
            }
            masks.put(first + many, mask);
            kept.put(asker, many + 1);
        }

        int maskAt(int asker, int place) {
            return place >= 0 && place < kept.get(asker) ? masks.get(asker * MOST_REMEMBERED + place) : NONE;
        }

        boolean givesAway(int asker, int mask) {
            for (int place = 0; place < kept.get(asker); place++) {
                if (Integer.bitCount(maskAt(asker, place) ^ mask) == 1) {
                    return true;
                }
            }
            return false;
        }

        /** Takes a row out of every mask, and gives those behind it their new numbers. */
        void takeOut(int row) {
            int before = (1 << row) - 1;
            for (int i = 0; i < PEOPLE * MOST_REMEMBERED; i++) {
                int mask = masks.get(i);
                masks.put(i, (mask & before) | ((mask >> 1) & ~before));
            }
        }

        void copyFrom(Memory other) {
            masks.copyFrom(other.masks);
            kept.copyFrom(other.kept);
        }
    }

    private static final class Tallies {
        final Numbers answers = new Numbers(PEOPLE, 0);
        final Numbers refusals = new Numbers(PEOPLE, 0);
        int givenAway = 0;

        void note(int asker, boolean isRefused) {
            answers.put(asker, answers.get(asker) + 1);
            if (isRefused) {
                refusals.put(asker, refusals.get(asker) + 1);
            }
        }

        void copyFrom(Tallies other) {
            answers.copyFrom(other.answers);
            refusals.copyFrom(other.refusals);
            givenAway = other.givenAway;
        }
    }

    /** All that undo brings back. */
    private static final class State {
        final Rows rows = new Rows();
        final People people = new People();
        final Memory memory = new Memory();
        final Tallies tallies = new Tallies();
        final Numbers settings = new Numbers(SETTINGS, 0);
        int rules = (1 << RULES) - 1;

        State() {
            settings.put(LEAST_COUNT, 1);
            settings.put(COARSENESS, 1);
        }

        void copyFrom(State other) {
            rows.copyFrom(other.rows);
            people.copyFrom(other.people);
            memory.copyFrom(other.memory);
            tallies.copyFrom(other.tallies);
            settings.copyFrom(other.settings);
            rules = other.rules;
        }

        int veilMask(int asker, int row) {
            int owner = rows.owners.get(row);
            if (owner == asker) {
                return 0;
            }
            int secrecy = rows.secrecies.get(row);
            int mask = 0;
            if (secrecy > people.ranks.get(asker)) {
                mask |= 1;
            }
            if (secrecy >= 2 && rows.places.get(row) != people.homes.get(asker)) {
                mask |= 2;
            }
            if (rows.values.get(row) >= VEILED_VALUE) {
                mask |= 4;
            }
            int master = people.masters.get(owner);
            int mastersMaster = master == NONE ? NONE : people.masters.get(master);
            if (secrecy == 3 && (asker == master || asker == mastersMaster)) {
                mask |= 8;
            }
            return mask & rules;
        }

        /** A mask of the rows of a question. */
        int seenRows(int asker, int place, int least, int greatest) {
            int mask = 0;
            for (int row = 0; row < rows.size; row++) {
                if (rows.isMatching(row, place, least, greatest) && veilMask(asker, row) == 0) {
                    mask |= 1 << row;
                }
            }
            return mask;
        }

        int allSeen(int asker) {
            return seenRows(asker, NONE, 0, MOST_VALUE);
        }

        int countAnswer(int asker, int mask) {
            boolean isRefused = isTooSmall(mask) || (settings.get(DIFFERENCES) == 1 && memory.givesAway(asker, mask));
            return isRefused ? NONE : roundedDown(Integer.bitCount(mask), settings.get(COARSENESS));
        }

        int sumAnswer(int mask) {
            int sum = 0;
            int top = 0;
            for (int row = 0; row < rows.size; row++) {
                if (((mask >> row) & 1) == 1) {
                    int value = rows.values.get(row);
                    sum += value;
                    top = Math.max(top, value);
                }
            }
            return isTooSmall(mask) || 2 * top > sum ? NONE : sum;
        }

        private boolean isTooSmall(int mask) {
            return mask != 0 && Integer.bitCount(mask) < settings.get(LEAST_COUNT);
        }

        private static int roundedDown(int number, int step) {
            return step > 0 ? number - number % step : number;
        }

        int leastCoarseness(int asker, int place) {
            int seen = Integer.bitCount(seenRows(asker, place, 0, MOST_VALUE));
            int all = rows.howManyMatch(place, 0, MOST_VALUE);
            for (int step = 1; step <= MOST_COARSENESS; step++) {
                if (roundedDown(seen, step) == roundedDown(all, step)) {
                    return step;
                }
            }
            return NONE;
        }

        int rowNumber(int row, int what) {
            switch (what) {
                case 0: return rows.owners.get(row);
                case 1: return rows.places.get(row);
                case 2: return rows.values.get(row);
                case 3: return rows.secrecies.get(row);
                default: return whoSees(row);
            }
        }

        private int whoSees(int row) {
            int mask = 0;
            for (int person = 0; person < PEOPLE; person++) {
                if (veilMask(person, row) == 0) {
                    mask |= 1 << person;
                }
            }
            return mask;
        }

        int personNumber(int person, int what) {
            switch (what) {
                case 0: return people.ranks.get(person);
                case 1: return people.homes.get(person);
                case 2: return people.masters.get(person);
                case 3: return Integer.bitCount(allSeen(person));
                case 4: return allSeen(person);
                case 5: return memory.kept.get(person);
                case 6: return tallies.answers.get(person);
                default: return tallies.refusals.get(person);
            }
        }

        /** How many pairs of a person and a row are veiled by a rule and by no other one. */
        int hiddenByAlone(int rule) {
            int pairs = 0;
            for (int person = 0; person < PEOPLE; person++) {
                for (int row = 0; row < rows.size; row++) {
                    if (veilMask(person, row) == 1 << rule) {
                        pairs++;
                    }
                }
            }
            return pairs;
        }

        int whoSeesFewest() {
            int found = 0;
            int fewest = MOST_ROWS + 1;
            for (int person = 0; person < PEOPLE; person++) {
                int seen = Integer.bitCount(allSeen(person));
                if (seen < fewest) {
                    found = person;
                    fewest = seen;
                }
            }
            return found;
        }

        int pairsSeen() {
            int pairs = 0;
            for (int person = 0; person < PEOPLE; person++) {
                pairs += Integer.bitCount(allSeen(person));
            }
            return pairs;
        }

        double shareSeen() {
            int pairs = rows.size * PEOPLE;
            return pairs > 0 ? (double) pairsSeen() / (double) pairs : 1.0;
        }
    }

    /** The saved states, in a ring of states that are made once and written over. */
    private static final class History {
        private final State[] ring = new State[MOST_SAVED];
        private int next = 0;
        int held = 0;

        History() {
            for (int i = 0; i < ring.length; i++) {
                ring[i] = new State();
            }
        }

        private State slot(int index) {
            return index >= 0 && index < ring.length ? ring[index] : null;
        }

        void save(State state) {
            State slot = slot(next);
            if (slot != null) {
                slot.copyFrom(state);
                next = next + 1 < MOST_SAVED ? next + 1 : 0;
                held = Math.min(held + 1, MOST_SAVED);
            }
        }

        void restore(State state) {
            int latest = next > 0 ? next - 1 : MOST_SAVED - 1;
            State slot = slot(latest);
            if (slot != null && held > 0) {
                state.copyFrom(slot);
                next = latest;
                held--;
            }
        }
    }

    /** The input text, and the reading of it. */
    private static final class Buffer {
        // What the reading has come to; from VALUE on, rows as a text may end.
        private static final int BAD = -1;
        private static final int START = 0;
        private static final int OWNER = 1;
        private static final int PLACE = 2;
        private static final int VALUE = 3;
        private static final int WHOLE_VALUE = 4;
        private static final int LAST_MARK = 7;

        final Numbers codes = new Numbers(MOST_CODES, 0);
        int length = 0;

        boolean isFull() {
            return length >= MOST_CODES;
        }

        void put(int code) {
            codes.put(length, code);
            length++;
        }

        int empty() {
            int had = length;
            length = 0;
            return had;
        }

        int errorIndex() {
            int stage = START;
            for (int i = 0; i < length; i++) {
                stage = stageAfter(stage, codes.get(i));
                if (stage == BAD) {
                    return i;
                }
            }
            return length;
        }

        boolean isComplete() {
            int stage = START;
            for (int i = 0; i < length && stage != BAD; i++) {
                stage = stageAfter(stage, codes.get(i));
            }
            return stage >= VALUE;
        }

        private static int stageAfter(int stage, int code) {
            switch (stage) {
                case START: return code >= '0' && code < '0' + PEOPLE ? OWNER : BAD;
                case OWNER: return placeOf(code) != NONE ? PLACE : BAD;
                case PLACE: return code == '0' ? WHOLE_VALUE : isDigit(code) ? VALUE : BAD;
                case VALUE: return isDigit(code) ? WHOLE_VALUE : stageAfterValue(WHOLE_VALUE, code);
                default: return stageAfterValue(stage, code);
            }
        }

        /** Each "!" is a stage of its own, the last of them LAST_MARK. */
        private static int stageAfterValue(int stage, int code) {
            if (code == ',') {
                return START;
            }
            return code == '!' && stage >= WHOLE_VALUE && stage < LAST_MARK ? stage + 1 : BAD;
        }

        private static boolean isDigit(int code) {
            return code >= '0' && code <= '9';
        }

        private static int placeOf(int code) {
            switch (code) {
                case 'n': return 0;
                case 'e': return 1;
                case 's': return 2;
                case 'w': return 3;
                default: return NONE;
            }
        }

        /** Adds the rows of a complete text as long as there is room; returns how many came. */
        int readInto(Rows rows) {
            int come = 0;
            int start = 0;
            for (int i = 0; i <= length; i++) {
                if (i == length || codes.get(i) == ',') {
                    if (rows.isFull()) {
                        return come;
                    }
                    readPart(rows, start, i);
                    come++;
                    start = i + 1;
                }
            }
            return come;
        }

        private void readPart(Rows rows, int start, int end) {
            int value = 0;
            int secrecy = 0;
            for (int i = start + 2; i < end; i++) {
                int code = codes.get(i);
                if (code == '!') {
                    secrecy++;
                } else {
                    value = value * 10 + (code - '0');
                }
            }
            rows.place(codes.get(start) - '0', placeOf(codes.get(start + 1)), value, secrecy);
        }
    }
}
