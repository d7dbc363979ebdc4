/**
 * A compiler for switches on texts: linear comparison, binary search, decision trees over lengths and
 * character positions, and perfect hash tables with displacements.
 *
 * <p>Every row is made once, in a constructor, and used again by all calls, so that a call makes no object
 * but the exception that it throws.
 */
public final class TextSwitchCompiler {
    private static final int MOST_KEYS = 20;
    private static final int LONGEST_KEY = 8;
    private static final int LONGEST_TEXT = 60;
    private static final int MOST_BRANCH = 9;
    private static final int LEAST_WEIGHT = 1;
    private static final int MOST_WEIGHT = 99;
    private static final int LEAST_LOAD = 50;
    private static final int MOST_LOAD = 100;
    private static final int LEAST_SIGN = 33;
    private static final int MOST_SIGN = 126;

    private static final int LINEAR = 0;
    private static final int BINARY = 1;
    private static final int TREES = 2;
    private static final int TABLE = 3;
    private static final int STRATEGIES = 4;

    /** No key, no character, no tree, no error. */
    private static final int NONE = -1;

    private final Text buffer = new Text(LONGEST_TEXT);
    private final Keys keys = new Keys();
    private final Keys savedKeys = new Keys();
    private boolean somethingSaved = false;
    private final Commands commands = new Commands();
    private int errorPlace = NONE;

    private final Order order = new Order(keys);
    private final Forest forest = new Forest(keys);
    private final Selection selection = new Selection(keys);
    private final Table hashTable = new Table(keys, selection);
    private final Runner runner = new Runner(keys, order, forest, hashTable);
    private final Lister lister = new Lister(keys, order, forest, hashTable);
    /** The changes of the keys up to which order, forest, selection and table are right. */
    private int preparedChanges = NONE;

    /** Creates a compiler without keys, with load 100 and an empty buffer. */
    public TextSwitchCompiler() {
    }

    /** Appends up to four characters, the bytes of an int that are not 0, to the buffer. */
    public int append(int packed) throws IllegalArgumentException, IllegalStateException {
        int signs = 0;
        for (int shift = 24; shift >= 0; shift -= 8) {
            int sign = packed >>> shift & 255;
            if (sign != 0) {
                if (sign < LEAST_SIGN || sign > MOST_SIGN) {
                    throw new IllegalArgumentException("a byte is no character");
                }
                signs++;
            }
        }
        if (buffer.length + signs > LONGEST_TEXT) {
            throw new IllegalStateException("the buffer is too short");
        }
        for (int shift = 24; shift >= 0; shift -= 8) {
            int sign = packed >>> shift & 255;
            if (sign != 0) {
                buffer.write(sign);
            }
        }
        return buffer.length;
    }

    /** Empties the buffer and returns the number of characters that it had. */
    public int clear() {
        int length = buffer.length;
        buffer.empty();
        return length;
    }

    /** Adds the text in the buffer as a key with weight 1, and returns its number. */
    public int add(int branch) throws IllegalArgumentException, IllegalStateException {
        if (!buffer.isKey()) {
            throw new IllegalArgumentException("the text cannot be a key");
        }
        requireBranch(branch);
        if (!keys.insert(buffer, 0, buffer.length, branch)) {
            throw new IllegalStateException("the key exists already, or there are too many");
        }
        buffer.empty();
        return keys.count - 1;
    }

    /** Removes a key and returns the number of those that remain. */
    public int remove(int key) throws IndexOutOfBoundsException {
        requireKey(key);
        keys.drop(key);
        return keys.count;
    }

    /** Sets the branch of a key and returns the previous one. */
    public int setBranch(int key, int branch) throws IndexOutOfBoundsException, IllegalArgumentException {
        requireKey(key);
        requireBranch(branch);
        int previous = at(keys.branches, key);
        put(keys.branches, key, branch);
        return previous;
    }

    /** Sets the weight of a key and returns the previous one. */
    public int setWeight(int key, int weight) throws IndexOutOfBoundsException, IllegalArgumentException {
        requireKey(key);
        if (weight < LEAST_WEIGHT || weight > MOST_WEIGHT) {
            throw new IllegalArgumentException("the weight is out of range");
        }
        int previous = at(keys.weights, key);
        put(keys.weights, key, weight);
        return previous;
    }

    /** Sets the load and returns the previous one. */
    public int setLoad(int percent) throws IllegalArgumentException {
        if (percent < LEAST_LOAD || percent > MOST_LOAD) {
            throw new IllegalArgumentException("the load is out of range");
        }
        int previous = keys.load;
        keys.changeLoad(percent);
        return previous;
    }

    /** Executes the commands in the buffer, all of them or none, and returns their number. */
    public int execute() throws IllegalArgumentException, IllegalStateException {
        boolean formed = commands.read(buffer);
        boolean executed = formed && commands.carryOut(buffer, keys);
        errorPlace = commands.error;
        buffer.empty();
        if (!formed) {
            throw new IllegalArgumentException("a form error");
        }
        if (!executed) {
            throw new IllegalStateException("an execution error");
        }
        return commands.count;
    }

    /** Returns the position of the error in the text that execute read most recently, or -1. */
    public int errorPosition() {
        return errorPlace;
    }

    /** Returns the branch (0), weight (1), length (2), rank (3) or number of near neighbors (4) of a key. */
    public int property(int key, int what) throws IndexOutOfBoundsException, IllegalArgumentException {
        requireKey(key);
        switch (what) {
            case 0:
                return at(keys.branches, key);
            case 1:
                return at(keys.weights, key);
            case 2:
                return keys.lengthOf(key);
            case 3:
                return keys.rankOf(key);
            case 4:
                return keys.neighborsOf(key);
            default:
                throw new IllegalArgumentException("no such property");
        }
    }

    /** Returns the code of a character of a key. */
    public int character(int key, int position) throws IndexOutOfBoundsException {
        requireKey(key);
        if (position < 0 || position >= keys.lengthOf(key)) {
            throw new IndexOutOfBoundsException("no such position");
        }
        return keys.letterAt(key, position);
    }

    /** Returns the lowest position at which two keys differ, or the length of the shorter one. */
    public int difference(int one, int other) throws IndexOutOfBoundsException, IllegalArgumentException {
        requireKey(one);
        requireKey(other);
        if (one == other) {
            throw new IllegalArgumentException("both keys are the same");
        }
        return keys.firstDifference(one, other);
    }

    /** Returns the number of keys (0), the load (1) or the length of the text in the buffer (2). */
    public int size(int what) throws IllegalArgumentException {
        switch (what) {
            case 0:
                return keys.count;
            case 1:
                return keys.load;
            case 2:
                return buffer.length;
            default:
                throw new IllegalArgumentException("no such size");
        }
    }

    /** Runs a strategy with the text in the buffer and returns the key that is found, or -1. */
    public int find(int strategy) throws IllegalArgumentException, IllegalStateException {
        prepare();
        requireRunnable(strategy);
        runner.run(buffer, strategy);
        return runner.found;
    }

    /** Runs a strategy with the text in the buffer and returns the branch that is found, or -1. */
    public int branch(int strategy) throws IllegalArgumentException, IllegalStateException {
        prepare();
        requireRunnable(strategy);
        runner.run(buffer, strategy);
        return runner.found == NONE ? NONE : at(keys.branches, runner.found);
    }

    /** Runs a strategy with the text in the buffer and returns the number of characters examined. */
    public int examined(int strategy) throws IllegalArgumentException, IllegalStateException {
        prepare();
        requireRunnable(strategy);
        runner.run(buffer, strategy);
        return runner.steps;
    }

    /** Returns the sum, over all keys, of the weight times the characters examined with the key. */
    public int cost(int strategy) throws IllegalArgumentException, IllegalStateException {
        prepare();
        requireRunnable(strategy);
        runner.measure(strategy);
        return runner.cost;
    }

    /** Returns the greatest number of characters that a strategy examines with a key. */
    public int worst(int strategy) throws IllegalArgumentException, IllegalStateException {
        prepare();
        requireRunnable(strategy);
        runner.measure(strategy);
        return runner.worst;
    }

    /** Returns the bits of the cost of a strategy divided by the sum of all weights. */
    public long meanBits(int strategy) throws IllegalArgumentException, IllegalStateException, ArithmeticException {
        prepare();
        requireRunnable(strategy);
        int weights = keys.totalWeight();
        if (weights <= 0) {
            throw new ArithmeticException("no keys");
        }
        runner.measure(strategy);
        return meanBitsOf((double) runner.cost / (double) weights);
    }

    /** Returns the strategy with the least cost among those that can be run; of several, the lowest one. */
    public int best() {
        prepare();
        runner.measure(LINEAR);
        int best = LINEAR;
        int least = runner.cost;
        for (int strategy = BINARY; strategy < STRATEGIES; strategy++) {
            if (canRun(strategy)) {
                runner.measure(strategy);
                if (runner.cost < least) {
                    least = runner.cost;
                    best = strategy;
                }
            }
        }
        return best;
    }

    /** Returns the number of trees that are no children (0), nodes (1), leaves (2), or the height (3). */
    public int trees(int what) throws IllegalArgumentException {
        prepare();
        switch (what) {
            case 0:
                return forest.rootCount;
            case 1:
                return forest.treeCount - forest.leafCount;
            case 2:
                return forest.leafCount;
            case 3:
                return forest.height;
            default:
                throw new IllegalArgumentException("no such size");
        }
    }

    /** Returns the set of selected positions, bit p for position p. */
    public int selected() {
        prepare();
        return selection.positions;
    }

    /** Returns the hash of the text in the buffer for a seed. */
    public int hash(int seed) {
        prepare();
        return selection.hashOf(buffer, seed);
    }

    /** Returns the slots (0), buckets (1), seed (2), greatest displacement (3) or greatest bucket (4). */
    public int table(int what) throws IllegalArgumentException, IllegalStateException {
        if (what < 0 || what > 4) {
            throw new IllegalArgumentException("no such size");
        }
        prepare();
        requireTable();
        switch (what) {
            case 0:
                return hashTable.slotCount;
            case 1:
                return hashTable.bucketCount;
            case 2:
                return hashTable.seed;
            case 3:
                return greatest(hashTable.displacements, hashTable.bucketCount);
            default:
                return greatest(hashTable.bucketSizes, hashTable.bucketCount);
        }
    }

    /** Returns the number of the key that took a slot, or -1. */
    public int slot(int slot) throws IllegalStateException, IndexOutOfBoundsException {
        prepare();
        requireTable();
        if (slot < 0 || slot >= hashTable.slotCount) {
            throw new IndexOutOfBoundsException("no such slot");
        }
        return at(hashTable.owners, slot);
    }

    /** Returns the displacement of a bucket. */
    public int displacement(int bucket) throws IllegalStateException, IndexOutOfBoundsException {
        prepare();
        requireTable();
        if (bucket < 0 || bucket >= hashTable.bucketCount) {
            throw new IndexOutOfBoundsException("no such bucket");
        }
        return at(hashTable.displacements, bucket);
    }

    /** Returns the bits of the number of keys divided by the number of slots. */
    public int densityBits() throws IllegalStateException {
        prepare();
        requireTable();
        int slots = hashTable.slotCount;
        return slots <= 0 ? 0 : densityBitsOf((float) keys.count / (float) slots);
    }

    /** Returns a character of the listing of a strategy, or its length if index is -1. */
    public int listing(int strategy, int index)
            throws IllegalArgumentException, IllegalStateException, IndexOutOfBoundsException {
        requireStrategy(strategy);
        prepare();
        if (strategy == TABLE) {
            requireTable();
        }
        lister.list(strategy);
        if (index == -1) {
            return lister.page.length;
        }
        if (index < 0 || index >= lister.page.length) {
            throw new IndexOutOfBoundsException("no such index");
        }
        return lister.page.signAt(index);
    }

    /** Saves the keys and the load, and returns the number of keys. */
    public int save() {
        savedKeys.takeOver(keys);
        somethingSaved = true;
        return savedKeys.count;
    }

    /** Restores what was saved, and returns the number of keys. */
    public int restore() throws IllegalStateException {
        if (!somethingSaved) {
            throw new IllegalStateException("nothing was saved");
        }
        keys.takeOver(savedKeys);
        return keys.count;
    }

    private void requireKey(int key) {
        if (!keys.has(key)) {
            throw new IndexOutOfBoundsException("no such key");
        }
    }

    private static void requireBranch(int branch) {
        if (branch < 0 || branch > MOST_BRANCH) {
            throw new IllegalArgumentException("the branch is out of range");
        }
    }

    private static void requireStrategy(int strategy) {
        if (strategy < 0 || strategy >= STRATEGIES) {
            throw new IllegalArgumentException("no such strategy");
        }
    }

    private void requireRunnable(int strategy) {
        requireStrategy(strategy);
        if (!canRun(strategy)) {
            throw new IllegalStateException("there is no table");
        }
    }

    private void requireTable() {
        if (!hashTable.exists) {
            throw new IllegalStateException("there is no table");
        }
    }

    private boolean canRun(int strategy) {
        return strategy != TABLE || keys.count == 0 || hashTable.exists;
    }

    /** What the strategies need is made when it is asked for, and once only as long as no key changes. */
    private void prepare() {
        if (preparedChanges != keys.changes) {
            order.sort();
            forest.grow();
            selection.choose();
            hashTable.build();
            preparedChanges = keys.changes;
        }
    }

    private static int at(int[] row, int index) {
        return index >= 0 && index < row.length ? row[index] : 0;
    }

    private static void put(int[] row, int index, int value) {
        if (index >= 0 && index < row.length) {
            row[index] = value;
        }
    }

    private static void copy(int[] from, int[] to) {
        for (int i = 0; i < from.length && i < to.length; i++) {
            to[i] = from[i];
        }
    }

    private static int greatest(int[] row, int count) {
        int greatest = 0;
        for (int i = 0; i < count; i++) {
            greatest = Math.max(greatest, at(row, i));
        }
        return greatest;
    }

    private static boolean contains(int set, int position) {
        return (set >>> position & 1) != 0;
    }

    private static boolean isLetter(int sign) {
        return sign >= 'a' && sign <= 'z';
    }

    private static boolean isDigit(int sign) {
        return sign >= '0' && sign <= '9';
    }

    /** The library's doubleToLongBits is none of this program's. No mean is below 1: keys are read whole. */
    private static long meanBitsOf(double mean) {
        double fraction = mean;
        long exponent = 1023L;
        for (int i = 0; i < 32 && fraction >= 2.0; i++) {
            fraction = fraction / 2.0;
            exponent++;
        }
        long one = 1L << 52;
        return (exponent << 52) + ((long) (fraction * (double) one) - one);
    }

    /** The library's floatToIntBits is none of this program's. No density is above 1. */
    private static int densityBitsOf(float density) {
        float fraction = density;
        int exponent = 127;
        for (int i = 0; i < 32 && fraction < 1.0f; i++) {
            fraction = fraction * 2.0f;
            exponent--;
        }
        int one = 1 << 23;
        return (exponent << 23) + ((int) (fraction * (float) one) - one);
    }

    /** A row of characters with an end that moves. */
    private static final class Text {
        final int[] signs;
        int length = 0;

        Text(int room) {
            signs = new int[Math.max(room, 0)];
        }

        void empty() {
            length = 0;
        }

        /** Returns NONE outside the text, which is no character and less than all of them. */
        int signAt(int index) {
            return index >= 0 && index < length && index < signs.length ? signs[index] : NONE;
        }

        void write(int sign) {
            if (length >= 0 && length < signs.length) {
                signs[length] = sign;
                length++;
            }
        }

        /** Writes a number from 0 to 999. */
        void writeNumber(int number) {
            if (number >= 100) {
                write('0' + number / 100 % 10);
            }
            if (number >= 10) {
                write('0' + number / 10 % 10);
            }
            write('0' + number % 10);
        }

        boolean isKeySign(int index) {
            int sign = signAt(index);
            return isLetter(sign) || isDigit(sign);
        }

        boolean isKey() {
            for (int i = 0; i < length; i++) {
                if (!isKeySign(i)) {
                    return false;
                }
            }
            return length >= 1 && length <= LONGEST_KEY;
        }
    }

    /** The keys with their branches and weights, and the load: all that save saves. */
    private static final class Keys {
        final int[] letters = new int[MOST_KEYS * LONGEST_KEY];
        final int[] lengths = new int[MOST_KEYS];
        final int[] branches = new int[MOST_KEYS];
        final int[] weights = new int[MOST_KEYS];
        int count = 0;
        int load = MOST_LOAD;
        /** Grows with every change after which the strategies may work in another way. */
        int changes = 0;

        boolean has(int key) {
            return key >= 0 && key < count;
        }

        int lengthOf(int key) {
            return key >= 0 && key < lengths.length ? lengths[key] : 0;
        }

        /** Returns NONE behind the end of the key, which is less than all characters. */
        int letterAt(int key, int position) {
            if (key < 0 || key >= count || key >= lengths.length || position < 0 || position >= lengths[key]) {
                return NONE;
            }
            int place = key * LONGEST_KEY + position;
            return place < letters.length ? letters[place] : NONE;
        }

        /** Returns the number of the key that is equal to a part of a text, or NONE. */
        int numberOf(Text text, int from, int length) {
            for (int key = 0; key < count; key++) {
                if (lengthOf(key) == length && beginsAt(key, text, from)) {
                    return key;
                }
            }
            return NONE;
        }

        private boolean beginsAt(int key, Text text, int from) {
            for (int p = 0; p < lengthOf(key); p++) {
                if (letterAt(key, p) != text.signAt(from + p)) {
                    return false;
                }
            }
            return true;
        }

        /** Adds a part of a text as a key, and answers false if it is here already or there is no room. */
        boolean insert(Text text, int from, int length, int branch) {
            if (count >= MOST_KEYS || length > LONGEST_KEY || numberOf(text, from, length) != NONE) {
                return false;
            }
            for (int p = 0; p < length; p++) {
                put(letters, count * LONGEST_KEY + p, text.signAt(from + p));
            }
            put(lengths, count, length);
            put(branches, count, branch);
            put(weights, count, LEAST_WEIGHT);
            count++;
            changes++;
            return true;
        }

        void drop(int key) {
            for (int k = key; k + 1 < count; k++) {
                for (int p = 0; p < LONGEST_KEY; p++) {
                    put(letters, k * LONGEST_KEY + p, at(letters, (k + 1) * LONGEST_KEY + p));
                }
                put(lengths, k, at(lengths, k + 1));
                put(branches, k, at(branches, k + 1));
                put(weights, k, at(weights, k + 1));
            }
            count--;
            changes++;
        }

        void changeLoad(int percent) {
            load = percent;
            changes++;
        }

        void takeOver(Keys other) {
            copy(other.letters, letters);
            copy(other.lengths, lengths);
            copy(other.branches, branches);
            copy(other.weights, weights);
            count = other.count;
            load = other.load;
            changes++;
        }

        /** Returns the lowest position at which two keys differ, or the length of the shorter one. */
        int firstDifference(int one, int other) {
            int shorter = Math.min(lengthOf(one), lengthOf(other));
            for (int p = 0; p < shorter; p++) {
                if (letterAt(one, p) != letterAt(other, p)) {
                    return p;
                }
            }
            return shorter;
        }

        boolean isLess(int one, int other) {
            int p = firstDifference(one, other);
            return letterAt(one, p) < letterAt(other, p);
        }

        int rankOf(int key) {
            int rank = 0;
            for (int other = 0; other < count; other++) {
                if (isLess(other, key)) {
                    rank++;
                }
            }
            return rank;
        }

        /** Returns the set of positions at which two keys of the same length differ. */
        int differences(int one, int other) {
            int set = 0;
            for (int p = 0; p < LONGEST_KEY; p++) {
                if (letterAt(one, p) != letterAt(other, p)) {
                    set |= 1 << p;
                }
            }
            return set;
        }

        int neighborsOf(int key) {
            int neighbors = 0;
            for (int other = 0; other < count; other++) {
                if (lengthOf(other) == lengthOf(key) && Integer.bitCount(differences(other, key)) == 1) {
                    neighbors++;
                }
            }
            return neighbors;
        }

        int totalWeight() {
            int total = 0;
            for (int key = 0; key < count; key++) {
                total += at(weights, key);
            }
            return total;
        }

        void writeKey(int key, Text text) {
            for (int p = 0; p < lengthOf(key); p++) {
                text.write(letterAt(key, p));
            }
        }
    }

    /** The commands of a text: read whole, and only then carried out on a draft of the keys. */
    private static final class Commands {
        static final int ADD = 0;
        static final int DEL = 1;
        static final int WEIGHT = 2;
        static final int LOAD = 3;

        final int[] kinds = new int[LONGEST_TEXT];
        final int[] starts = new int[LONGEST_TEXT];
        final int[] keyStarts = new int[LONGEST_TEXT];
        final int[] keyLengths = new int[LONGEST_TEXT];
        final int[] numbers = new int[LONGEST_TEXT];
        final Keys draft = new Keys();
        int count = 0;
        int place = 0;
        int error = NONE;

        /** Answers whether the text has the form of commands; if not, error is the position. */
        boolean read(Text text) {
            count = 0;
            place = 0;
            error = NONE;
            boolean more = true;
            while (more && count < LONGEST_TEXT) {
                if (!readCommand(text)) {
                    return false;
                }
                count++;
                more = place < text.length;
                if (more && !readSign(text, ';')) {
                    return false;
                }
            }
            return true;
        }

        private boolean readCommand(Text text) {
            put(starts, count, place);
            int kind = readWord(text);
            put(kinds, count, kind);
            switch (kind) {
                case ADD:
                    return readSign(text, ':') && readKey(text) && readSign(text, '=') && readBranch(text);
                case DEL:
                    return readSign(text, ':') && readKey(text);
                case WEIGHT:
                    return readSign(text, ':') && readKey(text) && readSign(text, '=')
                            && readNumber(text, LEAST_WEIGHT, MOST_WEIGHT);
                case LOAD:
                    return readSign(text, '=') && readNumber(text, LEAST_LOAD, MOST_LOAD);
                default:
                    return false;
            }
        }

        private boolean fail(int position) {
            error = position;
            return false;
        }

        private int readWord(Text text) {
            int start = place;
            while (place < text.length && isLetter(text.signAt(place))) {
                place++;
            }
            if (isWord(text, start, "add")) {
                return ADD;
            }
            if (isWord(text, start, "del")) {
                return DEL;
            }
            if (isWord(text, start, "weight")) {
                return WEIGHT;
            }
            if (isWord(text, start, "load")) {
                return LOAD;
            }
            error = start;
            return NONE;
        }

        private boolean isWord(Text text, int start, String word) {
            if (place - start != word.length()) {
                return false;
            }
            for (int i = 0; i < word.length(); i++) {
                if (text.signAt(start + i) != word.charAt(i)) {
                    return false;
                }
            }
            return true;
        }

        private boolean readSign(Text text, int sign) {
            if (text.signAt(place) != sign) {
                return fail(place);
            }
            place++;
            return true;
        }

        private boolean readKey(Text text) {
            int start = place;
            while (place < start + LONGEST_KEY && text.isKeySign(place)) {
                place++;
            }
            put(keyStarts, count, start);
            put(keyLengths, count, place - start);
            return place > start || fail(place);
        }

        private boolean readBranch(Text text) {
            int sign = text.signAt(place);
            if (!isDigit(sign)) {
                return fail(place);
            }
            put(numbers, count, sign - '0');
            place++;
            return true;
        }

        /** A number without digits or with a 0 at its start is out of range too, so all fail at one place. */
        private boolean readNumber(Text text, int least, int most) {
            int start = place;
            int number = 0;
            while (place < start + 3 && isDigit(text.signAt(place))) {
                number = 10 * number + text.signAt(place) - '0';
                place++;
            }
            put(numbers, count, number);
            if (text.signAt(start) == '0' || number < least || number > most) {
                return fail(start);
            }
            return true;
        }

        /** Answers whether all commands could be executed; if not, the keys stay and error is the position. */
        boolean carryOut(Text text, Keys keys) {
            draft.takeOver(keys);
            for (int command = 0; command < count; command++) {
                if (!carryOutOne(text, command)) {
                    return fail(at(starts, command));
                }
            }
            keys.takeOver(draft);
            return true;
        }

        private boolean carryOutOne(Text text, int command) {
            int start = at(keyStarts, command);
            int length = at(keyLengths, command);
            int number = at(numbers, command);
            switch (at(kinds, command)) {
                case ADD:
                    return draft.insert(text, start, length, number);
                case DEL:
                    return dropKey(draft.numberOf(text, start, length));
                case WEIGHT:
                    return weighKey(draft.numberOf(text, start, length), number);
                default:
                    draft.changeLoad(number);
                    return true;
            }
        }

        private boolean dropKey(int key) {
            if (key == NONE) {
                return false;
            }
            draft.drop(key);
            return true;
        }

        private boolean weighKey(int key, int weight) {
            if (key == NONE) {
                return false;
            }
            put(draft.weights, key, weight);
            return true;
        }
    }

    /** The order of the keys as texts. */
    private static final class Order {
        final Keys keys;
        final int[] row = new int[MOST_KEYS];

        Order(Keys keys) {
            this.keys = keys;
        }

        void sort() {
            for (int key = 0; key < keys.count; key++) {
                put(row, keys.rankOf(key), key);
            }
        }
    }

    /** The trees of strategy 2: first those that are no children, then the children, family by family. */
    private static final class Forest {
        static final int MOST_TREES = 2 * MOST_KEYS;

        final Keys keys;
        /** The keys, so that those of a tree stand side by side, from its start up to before its end. */
        final int[] members = new int[MOST_KEYS];
        final int[] starts = new int[MOST_TREES];
        final int[] ends = new int[MOST_TREES];
        /** What leads to a tree: a length, or the character of a child. */
        final int[] labels = new int[MOST_TREES];
        final int[] depths = new int[MOST_TREES];
        final int[] positions = new int[MOST_TREES];
        final int[] firstChildren = new int[MOST_TREES];
        final int[] childCounts = new int[MOST_TREES];
        int treeCount = 0;
        int rootCount = 0;
        int leafCount = 0;
        int height = 0;

        Forest(Keys keys) {
            this.keys = keys;
        }

        void grow() {
            treeCount = 0;
            leafCount = 0;
            height = 0;
            plantRoots();
            rootCount = treeCount;
            for (int tree = 0; tree < MOST_TREES && tree < treeCount; tree++) {
                if (isLeaf(tree)) {
                    leafCount++;
                    height = Math.max(height, at(depths, tree));
                } else {
                    split(tree);
                }
            }
        }

        boolean isLeaf(int tree) {
            return at(ends, tree) - at(starts, tree) <= 1;
        }

        int keyOf(int leaf) {
            return at(members, at(starts, leaf));
        }

        int childWith(int tree, int label) {
            return treeWith(at(firstChildren, tree), at(childCounts, tree), label);
        }

        int rootWith(int length) {
            return treeWith(0, rootCount, length);
        }

        private int treeWith(int first, int trees, int label) {
            for (int i = 0; i < trees; i++) {
                if (at(labels, first + i) == label) {
                    return first + i;
                }
            }
            return NONE;
        }

        private void plant(int start, int end, int label, int depth) {
            put(starts, treeCount, start);
            put(ends, treeCount, end);
            put(labels, treeCount, label);
            put(depths, treeCount, depth);
            put(childCounts, treeCount, 0);
            treeCount++;
        }

        private void plantRoots() {
            int end = 0;
            for (int length = 1; length <= LONGEST_KEY; length++) {
                int start = end;
                for (int key = 0; key < keys.count; key++) {
                    if (keys.lengthOf(key) == length) {
                        put(members, end, key);
                        end++;
                    }
                }
                if (end > start) {
                    plant(start, end, length, 0);
                }
            }
        }

        private void split(int tree) {
            int position = choosePosition(tree);
            put(positions, tree, position);
            put(firstChildren, tree, treeCount);
            int start = at(starts, tree);
            int end = at(ends, tree);
            sortMembers(start, end, position);
            for (int i = start; i < end; i++) {
                int label = keys.letterAt(at(members, i), position);
                boolean last = i + 1 >= end || keys.letterAt(at(members, i + 1), position) != label;
                if (last) {
                    plant(start, i + 1, label, at(depths, tree) + 1);
                    start = i + 1;
                }
            }
            put(childCounts, tree, treeCount - at(firstChildren, tree));
        }

        private int choosePosition(int tree) {
            int best = 0;
            int least = penaltyOf(tree, 0);
            for (int p = 1; p < keys.lengthOf(keyOf(tree)); p++) {
                int penalty = penaltyOf(tree, p);
                if (penalty < least) {
                    least = penalty;
                    best = p;
                }
            }
            return best;
        }

        /** The keys in the greatest child count first, and only among equal ones the number of children. */
        private int penaltyOf(int tree, int position) {
            int most = 0;
            int children = 0;
            for (int i = at(starts, tree); i < at(ends, tree); i++) {
                int letter = keys.letterAt(at(members, i), position);
                int before = 0;
                int same = 0;
                for (int j = at(starts, tree); j < at(ends, tree); j++) {
                    if (keys.letterAt(at(members, j), position) == letter) {
                        same++;
                        before += j < i ? 1 : 0;
                    }
                }
                most = Math.max(most, same);
                children += before == 0 ? 1 : 0;
            }
            return most * (MOST_KEYS + 1) - children;
        }

        private void sortMembers(int start, int end, int position) {
            for (int i = start + 1; i < end; i++) {
                int key = at(members, i);
                int hole = i;
                while (hole > start
                        && keys.letterAt(at(members, hole - 1), position) > keys.letterAt(key, position)) {
                    put(members, hole, at(members, hole - 1));
                    hole--;
                }
                put(members, hole, key);
            }
        }
    }

    /** The selected positions, and the hash that reads them. */
    private static final class Selection {
        final Keys keys;
        /** For any two keys of the same length the set of positions at which they differ. */
        final int[] pairs = new int[MOST_KEYS * MOST_KEYS];
        int pairCount = 0;
        int positions = 0;

        Selection(Keys keys) {
            this.keys = keys;
        }

        void choose() {
            collectPairs();
            int fewest = LONGEST_KEY + 1;
            // Of sets of one size, the least sequence has the greatest number if position 0 is its highest bit.
            for (int number = (1 << LONGEST_KEY) - 1; number >= 0; number--) {
                int size = Integer.bitCount(number);
                if (size < fewest && separates(turned(number))) {
                    fewest = size;
                    positions = turned(number);
                }
            }
        }

        private static int turned(int number) {
            int set = 0;
            for (int p = 0; p < LONGEST_KEY; p++) {
                if (contains(number, LONGEST_KEY - 1 - p)) {
                    set |= 1 << p;
                }
            }
            return set;
        }

        private void collectPairs() {
            pairCount = 0;
            for (int one = 0; one < keys.count; one++) {
                for (int other = 0; other < one; other++) {
                    if (keys.lengthOf(one) == keys.lengthOf(other)) {
                        put(pairs, pairCount, keys.differences(one, other));
                        pairCount++;
                    }
                }
            }
        }

        private boolean separates(int set) {
            for (int i = 0; i < pairCount; i++) {
                if ((at(pairs, i) & set) == 0) {
                    return false;
                }
            }
            return true;
        }

        int hashOf(Text text, int seed) {
            int h = seed;
            for (int p = 0; p < LONGEST_KEY; p++) {
                if ((positions >>> p & 1) != 0) {
                    h = 31 * h + (p < text.length ? text.signAt(p) : 0);
                }
            }
            h = 31 * h + text.length;
            h = h ^ h >>> 15;
            h = h * 739982445;
            return h ^ h >>> 12;
        }
    }

    /** The perfect hash table of strategy 3. */
    private static final class Table {
        static final int MOST_SLOTS = 100 * MOST_KEYS / LEAST_LOAD;
        static final int MOST_BUCKETS = (MOST_KEYS + 2) / 3;
        static final int SEED_STEP = 3;
        static final int LAST_SEED = 297;
        static final int LAST_DISPLACEMENT = 99;

        final Keys keys;
        final Selection selection;
        final Text probe = new Text(LONGEST_KEY);
        final int[] buckets = new int[MOST_KEYS];
        final int[] hashes = new int[MOST_KEYS];
        final int[] strides = new int[MOST_KEYS];
        final int[] bucketSizes = new int[MOST_BUCKETS];
        final int[] displacements = new int[MOST_BUCKETS];
        final int[] owners = new int[MOST_SLOTS];
        int slotCount = 0;
        int bucketCount = 0;
        int seed = 0;
        boolean exists = false;
        /** The slots that are taken, bit s for slot s. */
        long taken = 0L;

        Table(Keys keys, Selection selection) {
            this.keys = keys;
            this.selection = selection;
        }

        void build() {
            exists = false;
            slotCount = keys.load <= 0 ? 0 : (100 * keys.count + keys.load - 1) / keys.load;
            bucketCount = (keys.count + 2) / 3;
            if (keys.count > 0) {
                for (int candidate = 0; candidate <= LAST_SEED && !exists; candidate += SEED_STEP) {
                    exists = trySeed(candidate);
                }
            }
        }

        private boolean trySeed(int candidate) {
            seed = candidate;
            taken = 0L;
            hashKeys();
            for (int size = keys.count; size > 0; size--) {
                for (int bucket = 0; bucket < bucketCount; bucket++) {
                    if (at(bucketSizes, bucket) == size && !place(bucket)) {
                        return false;
                    }
                }
            }
            nameOwners();
            return true;
        }

        private void hashKeys() {
            for (int bucket = 0; bucket < bucketCount; bucket++) {
                put(bucketSizes, bucket, 0);
                put(displacements, bucket, 0);
            }
            for (int key = 0; key < keys.count; key++) {
                probe.empty();
                keys.writeKey(key, probe);
                int bucket = bucketFor(selection.hashOf(probe, seed));
                put(buckets, key, bucket);
                put(bucketSizes, bucket, at(bucketSizes, bucket) + 1);
                put(hashes, key, selection.hashOf(probe, seed + 1));
                put(strides, key, selection.hashOf(probe, seed + 2) | 1);
            }
        }

        private boolean place(int bucket) {
            for (int d = 0; d <= LAST_DISPLACEMENT; d++) {
                if (takeSlots(bucket, d)) {
                    put(displacements, bucket, d);
                    return true;
                }
            }
            return false;
        }

        private boolean takeSlots(int bucket, int d) {
            long mine = taken;
            for (int key = 0; key < keys.count; key++) {
                if (at(buckets, key) == bucket) {
                    long slot = 1L << slotFor(at(hashes, key), at(strides, key), d);
                    if ((mine & slot) != 0L) {
                        return false;
                    }
                    mine |= slot;
                }
            }
            taken = mine;
            return true;
        }

        private void nameOwners() {
            for (int slot = 0; slot < slotCount; slot++) {
                put(owners, slot, NONE);
            }
            for (int key = 0; key < keys.count; key++) {
                int d = at(displacements, at(buckets, key));
                put(owners, slotFor(at(hashes, key), at(strides, key), d), key);
            }
        }

        private int slotFor(int hash, int stride, int d) {
            return slotCount <= 0 ? 0 : Math.floorMod(hash + d * stride, slotCount);
        }

        private int bucketFor(int hash) {
            return bucketCount <= 0 ? 0 : Math.floorMod(hash, bucketCount);
        }

        /** Returns the key that took the slot of a text, or NONE. */
        int ownerFor(Text text) {
            int d = at(displacements, bucketFor(selection.hashOf(text, seed)));
            int hash = selection.hashOf(text, seed + 1);
            int stride = selection.hashOf(text, seed + 2) | 1;
            return at(owners, slotFor(hash, stride, d));
        }
    }

    /** Runs the strategies, and counts the characters that they examine. */
    private static final class Runner {
        final Keys keys;
        final Order order;
        final Forest forest;
        final Table table;
        final Text probe = new Text(LONGEST_KEY);
        int found = NONE;
        int steps = 0;
        int cost = 0;
        int worst = 0;

        Runner(Keys keys, Order order, Forest forest, Table table) {
            this.keys = keys;
            this.order = order;
            this.forest = forest;
            this.table = table;
        }

        void run(Text text, int strategy) {
            found = NONE;
            steps = 0;
            switch (strategy) {
                case LINEAR:
                    runLinear(text);
                    break;
                case BINARY:
                    runBinary(text);
                    break;
                case TREES:
                    runTrees(text);
                    break;
                default:
                    runTable(text);
                    break;
            }
        }

        /** Runs a strategy with each key. */
        void measure(int strategy) {
            cost = 0;
            worst = 0;
            for (int key = 0; key < keys.count; key++) {
                probe.empty();
                keys.writeKey(key, probe);
                run(probe, strategy);
                cost += at(keys.weights, key) * steps;
                worst = Math.max(worst, steps);
            }
        }

        /** Returns the first position that both have and that differs, or the length of the shorter one. */
        private int examineBoth(Text text, int key) {
            int shorter = Math.min(text.length, keys.lengthOf(key));
            for (int p = 0; p < shorter; p++) {
                steps++;
                if (text.signAt(p) != keys.letterAt(key, p)) {
                    return p;
                }
            }
            return shorter;
        }

        private boolean matches(Text text, int key) {
            return text.length == keys.lengthOf(key) && examineBoth(text, key) == text.length;
        }

        private void runLinear(Text text) {
            for (int key = 0; key < keys.count && found == NONE; key++) {
                if (matches(text, key)) {
                    found = key;
                }
            }
        }

        private void runBinary(Text text) {
            int low = 0;
            int high = keys.count - 1;
            for (int turn = 0; turn < MOST_KEYS && low <= high && found == NONE; turn++) {
                int middle = (low + high) / 2;
                int key = at(order.row, middle);
                int p = examineBoth(text, key);
                int sign = text.signAt(p);
                int letter = keys.letterAt(key, p);
                if (sign == letter) {
                    found = key;
                } else if (sign < letter) {
                    high = middle - 1;
                } else {
                    low = middle + 1;
                }
            }
        }

        private void runTrees(Text text) {
            int seen = 0;
            int tree = forest.rootWith(text.length);
            for (int level = 0; level < LONGEST_KEY && tree != NONE && !forest.isLeaf(tree); level++) {
                int position = at(forest.positions, tree);
                seen |= 1 << position;
                steps++;
                tree = forest.childWith(tree, text.signAt(position));
            }
            if (tree != NONE && matchesUnseen(text, forest.keyOf(tree), seen)) {
                found = forest.keyOf(tree);
            }
        }

        private boolean matchesUnseen(Text text, int key, int seen) {
            for (int p = 0; p < text.length && p < LONGEST_KEY; p++) {
                if (!contains(seen, p)) {
                    steps++;
                    if (text.signAt(p) != keys.letterAt(key, p)) {
                        return false;
                    }
                }
            }
            return true;
        }

        private void runTable(Text text) {
            if (table.exists) {
                for (int p = 0; p < text.length && p < LONGEST_KEY; p++) {
                    steps += contains(table.selection.positions, p) ? 1 : 0;
                }
                int owner = table.ownerFor(text);
                if (owner != NONE && matches(text, owner)) {
                    found = owner;
                }
            }
        }
    }

    /** Writes the listings on a page. */
    private static final class Lister {
        /** More than the longest listing, that of twenty keys of eight letters in trees, takes. */
        static final int PAGE = 1000;

        final Keys keys;
        final Order order;
        final Forest forest;
        final Table table;
        final Text page = new Text(PAGE);

        Lister(Keys keys, Order order, Forest forest, Table table) {
            this.keys = keys;
            this.order = order;
            this.forest = forest;
            this.table = table;
        }

        void list(int strategy) {
            page.empty();
            switch (strategy) {
                case LINEAR:
                case BINARY:
                    listKeys(strategy == BINARY);
                    break;
                case TREES:
                    listForest();
                    break;
                default:
                    listTable();
                    break;
            }
        }

        private void separate(int index, int sign) {
            if (index > 0) {
                page.write(sign);
            }
        }

        private void writeEntry(int key) {
            keys.writeKey(key, page);
            page.write('=');
            page.writeNumber(at(keys.branches, key));
        }

        private void listKeys(boolean asTexts) {
            for (int i = 0; i < keys.count; i++) {
                separate(i, ',');
                writeEntry(asTexts ? at(order.row, i) : i);
            }
        }

        private void listForest() {
            for (int root = 0; root < forest.rootCount; root++) {
                separate(root, ';');
                page.writeNumber(at(forest.labels, root));
                page.write(':');
                writeTree(this, root, 0);
            }
        }

        /** No tree is deeper than its keys have positions. */
        private static void writeTree(Lister lister, int tree, int depth) {
            if (depth > LONGEST_KEY) {
                return;
            }
            Forest forest = lister.forest;
            if (forest.isLeaf(tree)) {
                lister.writeEntry(forest.keyOf(tree));
                return;
            }
            lister.page.writeNumber(at(forest.positions, tree));
            lister.page.write('{');
            for (int i = 0; i < at(forest.childCounts, tree); i++) {
                int child = at(forest.firstChildren, tree) + i;
                lister.separate(i, ',');
                lister.page.write(at(forest.labels, child));
                lister.page.write(':');
                writeTree(lister, child, depth + 1);
            }
            lister.page.write('}');
        }

        private void listTable() {
            page.writeNumber(table.seed);
            page.write('/');
            for (int p = 0; p < LONGEST_KEY; p++) {
                if (contains(table.selection.positions, p)) {
                    page.writeNumber(p);
                }
            }
            page.write('/');
            for (int bucket = 0; bucket < table.bucketCount; bucket++) {
                separate(bucket, ',');
                page.writeNumber(at(table.displacements, bucket));
            }
            page.write('/');
            for (int slot = 0; slot < table.slotCount; slot++) {
                separate(slot, ',');
                int owner = at(table.owners, slot);
                if (owner == NONE) {
                    page.write('-');
                } else {
                    keys.writeKey(owner, page);
                }
            }
        }
    }
}
