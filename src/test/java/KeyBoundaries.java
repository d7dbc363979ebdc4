/** The sentences on what holds for all calls, on keys, and on the promises 1 to 8 and 11 to 14. */
final class KeyBoundaries {
    private static final String ARGUMENT = Sentences.ARGUMENT;
    private static final String STATE = Sentences.STATE;
    private static final String INDEX = Sentences.INDEX;

    private final Sentences s;

    private KeyBoundaries(Sentences s) {
        this.s = s;
    }

    static void test(Sentences sentences) {
        KeyBoundaries all = new KeyBoundaries(sentences);
        all.refusedCalls();
        all.refusedCallsWithoutTable();
        all.firstException();
        all.overflow();
        all.keys();
        all.newObject();
        all.append();
        all.clear();
        all.add();
        all.remove();
        all.setBranch();
        all.setWeight();
        all.setLoad();
        all.property();
        all.character();
        all.difference();
        all.size();
    }

    private void refusedCalls() {
        s.in("Description");
        String[] before = Sentences.rows("keys cat dog cow", "setWeight(1, 7) = 1", "setLoad(60) = 100",
            "type foo", "execute()" + ARGUMENT, "type load=40", "execute()" + ARGUMENT, "type dog");
        String[] after = Sentences.rows("list 0 = cat=0,dog=1,cow=2", "property(0, 1) = 1", "property(1, 1) = 7",
            "property(2, 1) = 1", "size(1) = 60", "size(2) = 3", "find(0) = 1", "errorPosition() = 5",
            "list 3 = 0/2/0/cat,cow,dog,-,-");
        String[] refused = Sentences.rows("append(0x61206161)" + ARGUMENT, "append(-1)" + ARGUMENT,
            "add(10)" + ARGUMENT, "add(-1)" + ARGUMENT, "add(5)" + STATE, "remove(3)" + INDEX, "remove(-1)" + INDEX,
            "setBranch(3, 5)" + INDEX, "setBranch(0, 10)" + ARGUMENT, "setWeight(3, 5)" + INDEX,
            "setWeight(0, 0)" + ARGUMENT, "setWeight(0, 100)" + ARGUMENT, "setLoad(49)" + ARGUMENT,
            "setLoad(101)" + ARGUMENT, "property(3, 0)" + INDEX, "property(0, 5)" + ARGUMENT,
            "character(3, 0)" + INDEX, "character(0, 3)" + INDEX, "difference(0, 3)" + INDEX,
            "difference(0, 0)" + ARGUMENT, "size(3)" + ARGUMENT, "find(4)" + ARGUMENT, "branch(4)" + ARGUMENT,
            "examined(4)" + ARGUMENT, "cost(4)" + ARGUMENT, "worst(4)" + ARGUMENT, "meanBits(4)" + ARGUMENT,
            "trees(4)" + ARGUMENT, "table(5)" + ARGUMENT, "slot(5)" + INDEX, "displacement(1)" + INDEX,
            "listing(4, 0)" + ARGUMENT, "listing(0, 17)" + INDEX, "restore()" + STATE);
        for (String call : refused) {
            s.test("A method that throws an exception leaves the state unchanged",
                Sentences.joined(before, Sentences.rows(call), after, Sentences.rows("restore()" + STATE)));
            if (!call.startsWith("restore")) {
                s.test("A method that throws an exception leaves the state unchanged",
                    Sentences.joined(Sentences.rows("keys one", "save() = 1", "remove(0) = 0"), before,
                        Sentences.rows(call), after, Sentences.rows("restore() = 1", "list 0 = one=0")));
            }
        }
        s.test("unless its description says otherwise", "keys cat", "type add:dog=1;foo", "execute()" + ARGUMENT,
            "size(2) = 0", "errorPosition() = 10", "list 0 = cat=0");
        s.test("A method that throws an exception leaves the state unchanged", "type " + "a".repeat(57),
            "append(0x61616161)" + STATE, "size(2) = 57", "append(0x61616161)" + STATE, "append(0x616161) = 60");
        s.test("A method that throws an exception leaves the state unchanged", Sentences.TWENTY_KEYS, "type new",
            "add(1)" + STATE, "size(0) = 20", "size(2) = 3", "find(0) = -1", "remove(19) = 19", "add(1) = 19",
            "character(19, 0) = 'n'");
    }

    private void refusedCallsWithoutTable() {
        String[] calls = Sentences.rows("find(3)" + STATE, "branch(3)" + STATE, "examined(3)" + STATE,
            "cost(3)" + STATE, "worst(3)" + STATE, "meanBits(3)" + STATE, "table(0)" + STATE, "slot(0)" + STATE,
            "displacement(0)" + STATE, "densityBits()" + STATE, "listing(3, -1)" + STATE);
        for (String call : calls) {
            s.test("A method that throws an exception leaves the state unchanged", Sentences.WITHOUT_TABLE, "type 2r",
                call, call, "list 0 = 2=0,44=1,z=2,p=3,20=4,u=5,2r=6,8=7,k1=8", "size(1) = 100", "size(2) = 2",
                "find(0) = 6", "find(1) = 6", "find(2) = 6", "errorPosition() = -1", "selected() = 3", "best() = 2");
        }
    }

    private void firstException() {
        s.in("Description");
        String quote = "If several exceptions are possible, the one listed first in the description of the method is "
            + "thrown.";
        s.test(quote, "type " + "a".repeat(60), "append(0x61)" + STATE, "append(0x20)" + ARGUMENT,
            "append(0x6161207F)" + ARGUMENT);
        s.test(quote, "keys cat", "type cat", "add(0)" + STATE, "add(10)" + ARGUMENT);
        s.test(quote, Sentences.TWENTY_KEYS, "add(0)" + ARGUMENT, "type A", "add(0)" + ARGUMENT, "clear() = 1",
            "type a", "add(-1)" + ARGUMENT, "add(0)" + STATE);
        s.test(quote, "setBranch(0, 10)" + INDEX, "keys a", "setBranch(1, 10)" + INDEX, "setBranch(0, 10)" + ARGUMENT);
        s.test(quote, "setWeight(0, 0)" + INDEX, "keys a", "setWeight(-1, 0)" + INDEX, "setWeight(0, 0)" + ARGUMENT);
        s.test(quote, "keys a", "type del:b;add:a=1;foo", "execute()" + ARGUMENT, "errorPosition() = 14");
        s.test(quote, "property(0, 5)" + INDEX, "keys a", "property(1, -1)" + INDEX, "property(0, -1)" + ARGUMENT);
        s.test(quote, "difference(0, 0)" + INDEX, "keys a", "difference(1, 1)" + INDEX, "difference(-1, -1)" + INDEX,
            "difference(0, 0)" + ARGUMENT);
        s.test(quote, "meanBits(4)" + ARGUMENT, "meanBits(-1)" + ARGUMENT, "meanBits(3)" + Sentences.ARITHMETIC);
        s.test(quote, "table(5)" + ARGUMENT, "table(-1)" + ARGUMENT, "table(4)" + STATE);
        s.test(quote, Sentences.WITHOUT_TABLE, "table(5)" + ARGUMENT, "table(-1)" + ARGUMENT, "table(4)" + STATE);
        s.test(quote, "slot(-1)" + STATE, "slot(0)" + STATE, "keys a", "slot(-1)" + INDEX);
        s.test(quote, Sentences.WITHOUT_TABLE, "slot(-1)" + STATE, "slot(9)" + STATE, "slot(MAX)" + STATE);
        s.test(quote, "displacement(-1)" + STATE, "displacement(0)" + STATE, "keys a", "displacement(-1)" + INDEX);
        s.test(quote, Sentences.WITHOUT_TABLE, "displacement(-1)" + STATE, "displacement(3)" + STATE);
        s.test(quote, "listing(4, -2)" + ARGUMENT, "listing(-1, -2)" + ARGUMENT, "listing(3, -2)" + STATE,
            "listing(3, -1)" + STATE, "listing(0, -2)" + INDEX);
        s.test(quote, Sentences.WITHOUT_TABLE, "listing(4, -2)" + ARGUMENT, "listing(3, -2)" + STATE,
            "listing(3, MAX)" + STATE, "listing(2, -2)" + INDEX);
    }

    private void overflow() {
        s.in("Description");
        String quote = "All arithmetic on ints overflows as in Java.";
        s.test(quote, "type a", "hash(0) = 739900894", "hash(1) = -2089829416", "hash(-1) = -2043429916",
            "hash(MAX) = 1118630612", "hash(MIN) = -393825042");
        s.test(quote, "hash(MAX) = 1858271367", "hash(MIN) = -1134115120");
    }

    private void keys() {
        s.in("Description");
        s.test("A key is a text of 1 to 8 characters", "add(0)" + ARGUMENT, "type a", "add(0) = 0", "type abcdefgh",
            "add(0) = 1", "type abcdefghi", "add(0)" + ARGUMENT, "size(0) = 2");
        s.test("each of them a letter from a to z or a digit", "type az09", "add(0) = 0", "type 0", "add(0) = 1",
            "type 9", "add(0) = 2", "type a", "add(0) = 3", "type z", "add(0) = 4");
        for (String sign : new String[] {"/", ":", "`", "{", "A", "Z", "@", "[", "=", ";", "-", "!", "~"}) {
            s.test("each of them a letter from a to z or a digit", "type " + sign, "add(0)" + ARGUMENT, "clear() = 1",
                "type a" + sign, "add(0)" + ARGUMENT, "clear() = 2", "type " + sign + "a", "add(0)" + ARGUMENT,
                "clear() = 2", "type abcdefg" + sign, "add(0)" + ARGUMENT, "size(0) = 0");
        }
        s.test("There are at most 20 keys", Sentences.TWENTY_KEYS, "size(0) = 20", "type k", "add(0)" + STATE,
            "clear() = 1", "type add:k=0", "execute()" + STATE, "size(0) = 20");
        s.test("numbered from 0 in the order in which they were added", "type b", "add(1) = 0", "type add:c=2;add:a=3",
            "execute() = 2", "type aa", "add(4) = 3", "list 0 = b=1,c=2,a=3,aa=4", "property(0, 0) = 1",
            "property(3, 0) = 4");
        s.test("no two keys are equal", "keys ab a", "type ab", "add(3)" + STATE, "clear() = 2", "type add:a=1",
            "execute()" + STATE, "type b", "add(2) = 2", "type aba", "add(2) = 3");
        s.test("A key has a branch from 0 to 9", "type a", "add(10)" + ARGUMENT, "add(-1)" + ARGUMENT, "add(9) = 0",
            "property(0, 0) = 9", "setBranch(0, 0) = 9", "property(0, 0) = 0");
        s.test("a weight from 1 to 99", "keys a", "setWeight(0, 100)" + ARGUMENT, "setWeight(0, 0)" + ARGUMENT,
            "setWeight(0, 99) = 1", "setWeight(0, 1) = 99");
        s.test("The positions of the characters of a text are numbered from 0.", "keys abcdefgh abcdefgx xbcdefgh",
            "character(0, 0) = 'a'", "character(0, 7) = 'h'", "difference(0, 1) = 7", "difference(0, 2) = 0",
            "character(0, 8)" + INDEX);
        s.test("Texts are ordered as by String.compareTo.", "keys b a9 a aa a0 9 z0 0 abc ab",
            "list 1 = 0=7,9=5,a=2,a0=4,a9=1,aa=3,ab=9,abc=8,b=0,z0=6");
        s.test("A buffer holds a text of at most 60 characters.", "type " + "z".repeat(60), "size(2) = 60",
            "append(0x7A)" + STATE, "size(2) = 60");
    }

    private void newObject() {
        s.in("Promise 1");
        String quote = "Creates a compiler without keys, with load 100 and an empty buffer.";
        s.test(quote, "size(0) = 0", "property(0, 0)" + INDEX, "remove(0)" + INDEX, "list 0 = ");
        s.test(quote, "size(1) = 100", "setLoad(100) = 100");
        s.test(quote, "size(2) = 0", "clear() = 0", "find(0) = -1", "hash(0) = 0");
    }

    private void append() {
        s.in("Promise 2");
        s.test("Appends up to four characters to the buffer", "append(0x61626364) = 4", "append(0x65666768) = 8",
            "add(1) = 0", "list 0 = abcdefgh=1");
        s.test("Appends up to four characters to the buffer", "append(0) = 0", "append(0x61) = 1",
            "append(0x6162) = 3", "append(0x616263) = 6", "append(0x61626364) = 10");
        s.test("from the most significant one to the least significant one", "append(0x7A613039) = 4", "add(0) = 0",
            "character(0, 0) = 'z'", "character(0, 1) = 'a'", "character(0, 2) = '0'", "character(0, 3) = '9'");
        s.test("bytes that are 0 are skipped", "append(0x61000000) = 1", "append(0x00620000) = 2",
            "append(0x00006300) = 3", "append(0x00000064) = 4", "append(0) = 4", "append(0x65000066) = 6",
            "append(0x00670068) = 8", "add(0) = 0", "list 0 = abcdefgh=0");
        s.test("Returns the number of characters in the buffer.", "append(0x6161) = 2", "append(0) = 2",
            "append(0x616161) = 5", "size(2) = 5");
        for (int sign : new int[] {1, 31, 32, 127, 128, 161, 255}) {
            for (int shift = 0; shift < 32; shift += 8) {
                int alone = sign << shift;
                int amongOthers = 0x61616161 & ~(255 << shift) | alone;
                s.test("Throws `IllegalArgumentException` if a byte that is not 0 is not from 33 to 126",
                    "append(" + alone + ")" + ARGUMENT, "append(" + amongOthers + ")" + ARGUMENT, "size(2) = 0");
            }
        }
        s.test("is not from 33 to 126", "append(0x21212121) = 4", "append(0x7E7E7E7E) = 8", "append(0x217E) = 10",
            "append(0) = 10");
        s.test("Throws `IllegalStateException` if there would be more than 60 characters", "type " + "a".repeat(56),
            "append(0x62626262) = 60", "append(0x62)" + STATE, "append(0) = 60");
        s.test("Throws `IllegalStateException` if there would be more than 60 characters", "type " + "a".repeat(57),
            "append(0x62626262)" + STATE, "size(2) = 57", "append(0x62006262) = 60", "append(0x62000000)" + STATE);
        s.test("Throws `IllegalStateException` if there would be more than 60 characters", "type " + "a".repeat(59),
            "append(0x6262)" + STATE, "append(0x62000000) = 60", "clear() = 60", "append(0x62626262) = 4");
    }

    private void clear() {
        s.in("Promise 3");
        s.test("Empties the buffer.", "keys ab", "type ab", "find(0) = 0", "clear() = 2", "size(2) = 0",
            "find(0) = -1", "clear() = 0", "size(0) = 1");
        s.test("Returns the number of characters that it had.", "clear() = 0", "type a", "clear() = 1",
            "type " + "a".repeat(60), "clear() = 60", "clear() = 0");
    }

    private void add() {
        s.in("Promise 4");
        s.test("Adds the text in the buffer as a key with weight 1", "type ab", "add(5) = 0", "list 0 = ab=5",
            "property(0, 1) = 1", "setWeight(0, 99) = 1", "remove(0) = 0", "type cd", "add(5) = 0",
            "property(0, 1) = 1");
        s.test("and empties the buffer", "type ab", "add(5) = 0", "size(2) = 0", "clear() = 0");
        s.test("which stays if an exception is thrown", "keys ab", "type ab", "add(10)" + ARGUMENT, "size(2) = 2",
            "find(0) = 0", "add(3)" + STATE, "size(2) = 2", "find(0) = 0", "append(0x41) = 3", "add(3)" + ARGUMENT,
            "size(2) = 3");
        s.test("- `branch`: the branch, 0 to 9", "type a", "add(0) = 0", "type b", "add(9) = 1", "list 0 = a=0,b=9");
        s.test("Returns the number of the key.", "type z", "add(1) = 0", "type a", "add(1) = 1", "remove(0) = 1",
            "type m", "add(1) = 1");
        s.test("if the text cannot be a key", "add(1)" + ARGUMENT, "type abcdefghi", "add(1)" + ARGUMENT,
            "clear() = 9", "type " + "a".repeat(60), "add(1)" + ARGUMENT, "clear() = 60", "type aB",
            "add(1)" + ARGUMENT,
            "clear() = 2", "type a=1", "add(1)" + ARGUMENT, "size(0) = 0");
        s.test("or the branch is out of range", Sentences.joined(Sentences.rows("type a"),
            Sentences.each("add(", ")" + ARGUMENT, "-1", "10", "MIN", "MAX"), Sentences.rows("add(9) = 0")));
        s.test("if the key exists already", "keys a b", "type a", "add(0)" + STATE, "clear() = 1", "type b",
            "add(9)" + STATE, "size(0) = 2", "remove(1) = 1", "add(9) = 1");
        s.test("or there are 20 keys", Sentences.TWENTY_KEYS, "type new", "add(1)" + STATE, "remove(0) = 19",
            "add(1) = 19", "type newer", "add(1)" + STATE, "size(0) = 20");
    }

    private void remove() {
        s.in("Promise 5");
        s.test("Removes a key.", "keys a b c", "remove(1) = 2", "list 0 = a=0,c=2", "type b", "find(0) = -1",
            "find(1) = -1", "find(2) = -1", "find(3) = -1");
        s.test("The numbers of the later keys decrease by 1.", "keys abc b ab abcd", "setWeight(2, 7) = 1",
            "setWeight(3, 9) = 1", "remove(1) = 3", "list 0 = abc=0,ab=2,abcd=3", "property(0, 1) = 1",
            "property(1, 1) = 7", "property(2, 1) = 9", "property(1, 2) = 2", "property(2, 2) = 4", "type abcd",
            "find(0) = 2", "find(3) = 2", "property(3, 0)" + INDEX);
        s.test("Removes a key.", "keys a b", "find(1) = -1", "find(2) = -1", "find(3) = -1", "type c", "add(2) = 2",
            "remove(0) = 2", "type c", "find(1) = 1", "find(2) = 1", "find(3) = 1", "selected() = 1", "trees(2) = 2");
        s.test("The numbers of the later keys decrease by 1.", "keys a b c", "remove(0) = 2", "list 0 = b=1,c=2",
            "remove(1) = 1", "list 0 = b=1");
        s.test("Returns the number of remaining keys.", "keys a b c", "remove(2) = 2", "remove(0) = 1", "remove(0) = 0",
            "size(0) = 0");
        s.test("Returns the number of remaining keys.", Sentences.TWENTY_KEYS, "remove(19) = 19", "remove(0) = 18");
        s.test("Throws `IndexOutOfBoundsException` if there is no such key", Sentences.joined(
            Sentences.rows("remove(0)" + INDEX, "remove(-1)" + INDEX, "keys a b"),
            Sentences.each("remove(", ")" + INDEX, "-1", "2", "20", "MIN", "MAX"), Sentences.rows("remove(1) = 1",
                "remove(1)" + INDEX, "remove(0) = 0", "remove(0)" + INDEX)));
        s.test("Throws `IndexOutOfBoundsException` if there is no such key", Sentences.TWENTY_KEYS,
            "remove(20)" + INDEX, "remove(19) = 19");
    }

    private void setBranch() {
        s.in("Promise 6");
        s.test("Sets the branch of a key.", "keys a b c", "setBranch(1, 8) = 1", "list 0 = a=0,b=8,c=2",
            "property(1, 0) = 8", "type b", "branch(0) = 8", "branch(1) = 8", "branch(2) = 8", "branch(3) = 8");
        s.test("- `branch`: the branch, 0 to 9", "keys a b", "setBranch(1, 0) = 1", "setBranch(1, 9) = 0",
            "property(1, 0) = 9");
        s.test("Returns the previous branch.", "keys a b", "setBranch(1, 1) = 1", "setBranch(1, 5) = 1",
            "setBranch(1, 6) = 5", "setBranch(0, 7) = 0");
        s.test("Throws `IndexOutOfBoundsException` if there is no such key", "setBranch(0, 1)" + INDEX, "keys a b",
            "setBranch(2, 1)" + INDEX, "setBranch(-1, 1)" + INDEX, "setBranch(MIN, 1)" + INDEX,
            "setBranch(MAX, 1)" + INDEX, "remove(0) = 1", "setBranch(1, 1)" + INDEX, "setBranch(0, 5) = 1");
        s.test("Throws `IllegalArgumentException` if the branch is out of range", Sentences.joined(
            Sentences.rows("keys a b"), Sentences.each("setBranch(1, ", ")" + ARGUMENT, "-1", "10", "MIN", "MAX"),
            Sentences.rows("property(1, 0) = 1")));
    }

    private void setWeight() {
        s.in("Promise 7");
        s.test("Sets the weight of a key.", "keys a bc", "setWeight(1, 50) = 1", "property(1, 1) = 50",
            "property(0, 1) = 1", "cost(2) = 101");
        s.test("- `weight`: the weight, 1 to 99", "keys a", "setWeight(0, 99) = 1", "property(0, 1) = 99",
            "setWeight(0, 1) = 99", "property(0, 1) = 1");
        s.test("Returns the previous weight.", "keys a b", "setWeight(1, 1) = 1", "setWeight(1, 2) = 1",
            "setWeight(1, 3) = 2", "setWeight(0, 9) = 1");
        s.test("Throws `IndexOutOfBoundsException` if there is no such key", "setWeight(0, 1)" + INDEX, "keys a b",
            "setWeight(2, 1)" + INDEX, "setWeight(-1, 1)" + INDEX, "setWeight(MIN, 1)" + INDEX,
            "setWeight(MAX, 1)" + INDEX, "remove(0) = 1", "setWeight(1, 2)" + INDEX, "setWeight(0, 2) = 1");
        s.test("Throws `IllegalArgumentException` if the weight is out of range", Sentences.joined(
            Sentences.rows("keys a b"), Sentences.each("setWeight(1, ", ")" + ARGUMENT, "0", "100", "-1", "MIN", "MAX"),
            Sentences.rows("property(1, 1) = 1")));
    }

    private void setLoad() {
        s.in("Promise 8");
        s.test("Sets the load.", "keys a b c", "setLoad(75) = 100", "size(1) = 75", "table(0) = 4", "setLoad(74) = 75",
            "table(0) = 5");
        s.test("Sets the load.", "keys a b", "table(0) = 2", "type c", "add(0) = 2", "setLoad(50) = 100",
            "table(0) = 6", "slot(5) = 0");
        s.test("- `percent`: the load, 50 to 100", "keys a", "setLoad(50) = 100", "size(1) = 50", "table(0) = 2",
            "setLoad(100) = 50", "size(1) = 100", "table(0) = 1");
        s.test("Returns the previous load.", "setLoad(60) = 100", "setLoad(60) = 60", "setLoad(99) = 60",
            "type load=51", "execute() = 1", "setLoad(50) = 51");
        s.test("Throws `IllegalArgumentException` if the load is out of range", Sentences.joined(
            Sentences.each("setLoad(", ")" + ARGUMENT, "49", "101", "0", "-1", "-50", "MIN", "MAX"),
            Sentences.rows("size(1) = 100")));
    }

    private void property() {
        s.in("Promise 11");
        s.test("0 for its branch", "type a", "add(0) = 0", "type b", "add(9) = 1", "property(0, 0) = 0",
            "property(1, 0) = 9");
        s.test("1 for its weight", "keys a b", "setWeight(1, 99) = 1", "property(0, 1) = 1", "property(1, 1) = 99");
        s.test("2 for its length", "keys a abcdefgh ab", "property(0, 2) = 1", "property(1, 2) = 8",
            "property(2, 2) = 2");
        s.test("3 for the number of keys that are less than it as texts", "keys a", "property(0, 3) = 0");
        s.test("3 for the number of keys that are less than it as texts", "keys abc ab b a 9 a9",
            "property(0, 3) = 4", "property(1, 3) = 3", "property(2, 3) = 5", "property(3, 3) = 1",
            "property(4, 3) = 0", "property(5, 3) = 2", "remove(3) = 5", "property(0, 3) = 3");
        s.test("3 for the number of keys that are less than it as texts", Sentences.TWENTY_KEYS, "property(0, 3) = 0",
            "property(9, 3) = 9", "property(10, 3) = 10", "property(19, 3) = 19");
        s.test("4 for the number of keys of the same length that differ from it at exactly one position", "keys a",
            "property(0, 4) = 0");
        s.test("of the same length", "keys ab a abc b", "property(0, 4) = 0", "property(2, 4) = 0",
            "property(1, 4) = 1");
        s.test("differ from it at exactly one position", "keys aaaaaaaa baaaaaaa aaaaaaab baaaaaab aaabaaaa bbbbbbbb",
            "property(0, 4) = 3", "property(1, 4) = 2", "property(2, 4) = 2", "property(3, 4) = 2",
            "property(4, 4) = 1", "property(5, 4) = 0");
        s.test("differ from it at exactly one position", Sentences.TWENTY_KEYS, "property(0, 4) = 9",
            "property(19, 4) = 9", "remove(18) = 19", "property(18, 4) = 8");
        s.test("Throws `IndexOutOfBoundsException` if there is no such key", "property(0, 0)" + INDEX, "keys a b",
            "property(2, 0)" + INDEX, "property(-1, 4)" + INDEX, "property(MIN, 0)" + INDEX, "property(MAX, 3)" + INDEX,
            "remove(1) = 1", "property(1, 0)" + INDEX);
        s.test("Throws `IllegalArgumentException` if what is not from 0 to 4", Sentences.joined(
            Sentences.rows("keys a"), Sentences.each("property(0, ", ")" + ARGUMENT, "-1", "5", "MIN", "MAX")));
    }

    private void character() {
        s.in("Promise 12");
        s.test("Returns a character of a key.", "keys abcdefgh z", "character(0, 0) = 'a'", "character(0, 6) = 'g'",
            "character(0, 7) = 'h'", "character(1, 0) = 'z'");
        s.test("Returns the code of the character.", "keys az09", "character(0, 0) = 97", "character(0, 1) = 122",
            "character(0, 2) = 48", "character(0, 3) = 57");
        s.test("if there is no such key or position", "character(0, 0)" + INDEX, "keys a bc", "character(2, 0)" + INDEX,
            "character(-1, 0)" + INDEX, "character(MIN, 0)" + INDEX, "character(MAX, 0)" + INDEX);
        s.test("if there is no such key or position", Sentences.joined(Sentences.rows("keys abcdefgh bc"),
            Sentences.each("character(0, ", ")" + INDEX, "8", "-1", "MIN", "MAX"),
            Sentences.each("character(1, ", ")" + INDEX, "2", "-1", "7", "8"), Sentences.rows("remove(0) = 1",
                "character(0, 2)" + INDEX, "character(1, 0)" + INDEX, "character(0, 1) = 'c'")));
    }

    private void difference() {
        s.in("Promise 13");
        s.test("Returns the lowest position at which two keys have different characters",
            "keys abcdefgh xbcdefgx abcdefgx abzdefgh az", "difference(0, 1) = 0", "difference(0, 2) = 7",
            "difference(0, 3) = 2", "difference(3, 0) = 2", "difference(2, 3) = 2", "difference(0, 4) = 1",
            "difference(4, 0) = 1");
        s.test("or the length of the shorter one if the longer one begins with it", "keys a ab abcdefg abcdefgh",
            "difference(0, 1) = 1", "difference(1, 0) = 1", "difference(0, 3) = 1", "difference(1, 2) = 2",
            "difference(2, 3) = 7", "difference(3, 2) = 7");
        s.test("Throws `IndexOutOfBoundsException` if there is no such key", "difference(0, 1)" + INDEX, "keys a b",
            "difference(0, 2)" + INDEX, "difference(2, 0)" + INDEX, "difference(-1, 0)" + INDEX,
            "difference(0, -1)" + INDEX, "difference(2, 2)" + INDEX, "difference(MIN, MAX)" + INDEX);
        s.test("Throws `IllegalArgumentException` if both are the same", "keys a b", "difference(0, 0)" + ARGUMENT,
            "difference(1, 1)" + ARGUMENT, "difference(0, 1) = 0");
    }

    private void size() {
        s.in("Promise 14");
        s.test("0 for the number of keys", "size(0) = 0", "keys a b", "size(0) = 2", "remove(0) = 1", "size(0) = 1");
        s.test("0 for the number of keys", Sentences.TWENTY_KEYS, "size(0) = 20");
        s.test("1 for the load", "size(1) = 100", "setLoad(50) = 100", "size(1) = 50");
        s.test("2 for the length of the text in the buffer", "size(2) = 0", "type " + "a".repeat(60), "size(2) = 60",
            "clear() = 60", "size(2) = 0");
        s.test("Throws `IllegalArgumentException` if what is not from 0 to 2",
            Sentences.each("size(", ")" + ARGUMENT, "-1", "3", "MIN", "MAX"));
    }
}
