/** The sentences on the strategies 0 to 2, and on the promises 15 to 21. */
final class StrategyBoundaries {
    private static final String ARGUMENT = Sentences.ARGUMENT;
    private static final String STATE = Sentences.STATE;
    private static final String NO_STRATEGY = "Throws `IllegalArgumentException` if there is no such strategy";
    private static final String CANNOT_RUN = "Throws `IllegalStateException` if it cannot be run";

    private final Sentences s;

    private StrategyBoundaries(Sentences s) {
        this.s = s;
    }

    static void test(Sentences sentences) {
        StrategyBoundaries all = new StrategyBoundaries(sentences);
        sentences.in("Description");
        all.texts();
        all.matching();
        all.linear();
        all.binary();
        all.binaryAtItsEnds();
        all.trees();
        all.treePositions();
        all.treeRuns();
        all.find();
        all.branch();
        all.examined();
        all.cost();
        all.worst();
        all.meanBits();
        all.best();
    }

    /** The key that all strategies find with a text in a new object, and how many characters each examines. */
    private void runs(String quote, String keys, String text, int found, int... examined) {
        String[] rows = text.isEmpty() ? Sentences.rows("keys " + keys) : Sentences.rows("keys " + keys,
            "type " + text);
        for (int strategy = 0; strategy < examined.length; strategy++) {
            rows = Sentences.joined(rows, Sentences.rows("find(" + strategy + ") = " + found,
                "branch(" + strategy + ") = " + (found < 0 ? -1 : found % 10),
                "examined(" + strategy + ") = " + examined[strategy], "size(2) = " + text.length()));
        }
        s.test(quote, rows);
    }

    private void texts() {
        String quote = "A strategy, 0 to 3, is run with a text, also one that could not be a key, and finds the key "
            + "that is equal to it, or no key.";
        runs(quote, "a", "a", 0, 1, 1, 1, 1);
        runs(quote, "a", "", -1, 0, 0, 0, 0);
        runs(quote, "a", "A", -1, 1, 1, 1, 1);
        runs(quote, "a", "~", -1, 1, 1, 1, 1);
        runs(quote, "a", "!", -1, 1, 1, 1, 1);
        runs(quote, "abcdefgh", "abcdefghi", -1, 0, 8, 0, 0);
        runs(quote, "abcdefgh", "abcdefgh".repeat(7) + "abcd", -1, 0, 8, 0, 0);
        runs(quote, "ab", "a;", -1, 2, 2, 2, 2);
        s.test(quote, Sentences.joined(Sentences.rows("keys a", "type a"),
            Sentences.each("find(", ")" + ARGUMENT, "-1", "4"), Sentences.each("find(", ") = 0", "0", "1", "2", "3")));
        String each = "if it examines the same character several times, each time counts";
        runs(each, "aa ab ba bb", "bb", 3, 6, 5, 2, 4);
        runs(each, "abcdefgh abcdefgi", "abcdefgi", 1, 16, 16, 8, 9);
    }

    private void matching() {
        String lengths = "if their lengths are different, no character is examined, and they are not equal";
        runs(lengths, "abc", "ab", -1, 0, 2, 0, 0);
        runs(lengths, "abc", "abcd", -1, 0, 3, 0, 0);
        runs(lengths, "abcdefgh a abcdef", "abcdefg", -1, 0, 13, 0, 0);
        String first = "up to the first one that is different from that of the key, which is examined, too";
        runs(first, "abcdefgh", "xbcdefgh", -1, 1, 1, 1, 1);
        runs(first, "abcdefgh", "abcdxfgx", -1, 5, 5, 5, 5);
        runs(first, "abcdefgh", "abcdefgx", -1, 8, 8, 8, 8);
        String none = "If there is none, they are equal.";
        runs(none, "abcdefgh", "abcdefgh", 0, 8, 8, 8, 8);
        runs(none, "0", "0", 0, 1, 1, 1, 1);
    }

    private void linear() {
        String quote = "The text is matched with the keys in ascending order of their numbers until one is equal to "
            + "it.";
        runs(quote, "ab aa ac", "ab", 0, 2);
        runs(quote, "ab aa ac", "aa", 1, 4);
        runs(quote, "ab aa ac", "ac", 2, 6);
        runs(quote, "ab aa ac", "ad", -1, 6);
        runs(quote, "ab aa ac", "ba", -1, 3);
        s.test(quote, Sentences.TWENTY_KEYS, "type kk9", "find(0) = 19", "examined(0) = 30", "clear() = 3", "type kka",
            "find(0) = -1", "examined(0) = 30", "clear() = 3", "type k0", "find(0) = 0", "examined(0) = 2");
        s.test(quote, "keys aa ab", "remove(0) = 1", "type aa", "add(0) = 1", "type ab", "examined(0) = 2",
            "clear() = 2", "type aa", "find(0) = 1", "examined(0) = 4");
    }

    private void binary() {
        s.test("The n keys are ordered as texts.", "keys d b c a", "type b", "find(1) = 1", "examined(1) = 1",
            "clear() = 1", "type a", "find(1) = 3", "examined(1) = 2", "list 1 = a=3,b=1,c=2,d=0");
        s.test("The n keys are ordered as texts.", "keys c b a", "list 1 = a=2,b=1,c=0", "remove(1) = 2",
            "list 1 = a=2,c=0", "remove(0) = 1", "list 1 = a=2", "type a", "find(1) = 0");
        String ends = "At first low is 0 and high is n - 1.";
        int[] steps = {2, 1, 2, 3};
        for (int key = 0; key < 4; key++) {
            s.test(ends, "keys a b c d", "type " + "abcd".charAt(key), "find(1) = " + key,
                "examined(1) = " + steps[key]);
        }
        s.test(ends, "keys a b", "type a", "examined(1) = 1", "find(1) = 0", "clear() = 1", "type b", "find(1) = 1",
            "examined(1) = 2");
        s.test(ends, "keys a b c", "type b", "examined(1) = 1", "clear() = 1", "type a", "examined(1) = 2",
            "clear() = 1", "type c", "examined(1) = 2");
        s.test("As long as low <= high", "type a", "find(1) = -1", "examined(1) = 0");
        s.test("As long as low <= high", "keys b d", "type a", "find(1) = -1", "examined(1) = 1", "clear() = 1",
            "type c", "find(1) = -1", "examined(1) = 2", "clear() = 1", "type e", "find(1) = -1", "examined(1) = 2");
        String lengths = "also if their lengths are different: the characters at the positions 0, 1, 2 and so on that "
            + "both have are examined";
        s.test(lengths, "keys abc", "type abd1", "find(1) = -1", "examined(1) = 3", "clear() = 4", "type ab",
            "find(1) = -1", "examined(1) = 2", "clear() = 2", "examined(1) = 0", "find(1) = -1");
        s.test(lengths, "keys a", "type " + "a".repeat(60), "find(1) = -1", "examined(1) = 1");
        String first = "up to the first one that is different from that of the key, which is examined, too";
        s.test(first, "keys abcd", "type xbcd", "examined(1) = 1", "clear() = 4", "type abxd", "examined(1) = 3",
            "clear() = 4", "type ax", "examined(1) = 2", "clear() = 2", "type abcx!", "examined(1) = 4");
    }

    private void binaryAtItsEnds() {
        s.test("If the text is equal to the key, the key is found", "keys a ab abc", "type ab", "find(1) = 1",
            "examined(1) = 2");
        s.test("if it is less, high becomes (low + high) / 2 - 1", "keys a ab abc", "type a", "find(1) = 0",
            "examined(1) = 2", "clear() = 1", "type aa", "find(1) = -1", "examined(1) = 3", "clear() = 2",
            "find(1) = -1", "examined(1) = 0");
        s.test("if it is less, high becomes (low + high) / 2 - 1", "keys m", "type A", "find(1) = -1",
            "examined(1) = 1", "clear() = 1", "type 9", "find(1) = -1");
        s.test("otherwise low becomes (low + high) / 2 + 1", "keys a ab abc", "type abc", "find(1) = 2",
            "examined(1) = 5", "clear() = 3", "type abcd", "find(1) = -1", "examined(1) = 5", "clear() = 4", "type b",
            "find(1) = -1", "examined(1) = 2", "clear() = 1", "type ~", "find(1) = -1", "examined(1) = 2");
        s.test("otherwise low becomes (low + high) / 2 + 1", Sentences.TWENTY_KEYS, "type kk9", "find(1) = 19",
            "examined(1) = 14", "clear() = 3", "type k0", "find(1) = 0", "examined(1) = 8");
    }

    private void trees() {
        String lengths = "For each length that a key has, there is a tree of the keys of this length.";
        s.test(lengths, "keys a ab abc abcd abcde abcdef abcdefg abcdefgh", "trees(0) = 8", "trees(1) = 0",
            "list 2 = 1:a=0;2:ab=1;3:abc=2;4:abcd=3;5:abcde=4;6:abcdef=5;7:abcdefg=6;8:abcdefgh=7");
        s.test(lengths, "keys b a", "trees(0) = 1", "list 2 = 1:0{a:a=1,b:b=0}");
        s.test("A tree of one key is a leaf.", "keys abcdefgh", "trees(0) = 1", "trees(1) = 0", "trees(2) = 1",
            "trees(3) = 0", "list 2 = 8:abcdefgh=0");
        String several = "A tree of several keys is a node, which has a position p and, for each character that one of "
            + "these keys has at p, as its child a tree of the keys that have this character there.";
        s.test(several, "keys a b", "trees(1) = 1", "trees(2) = 2", "trees(3) = 1");
        s.test(several, "keys aa ab ba bb", "list 2 = 2:0{a:1{a:aa=0,b:ab=1},b:1{a:ba=2,b:bb=3}}");
        s.test(several, "keys 0 1 2 3 4 5 6 7 8 9 a b c d e f g h i z", "trees(1) = 1", "trees(2) = 20",
            "list 2 = 1:0{0:0=0,1:1=1,2:2=2,3:3=3,4:4=4,5:5=5,6:6=6,7:7=7,8:8=8,9:9=9,"
                + "a:a=0,b:b=1,c:c=2,d:d=3,e:e=4,f:f=5,g:g=6,h:h=7,i:i=8,z:z=9}");
    }

    private void treePositions() {
        String least = "The position p is the one for which the greatest number of keys in a child is least";
        s.test(least, "keys aaa aab abc", "list 2 = 3:2{a:aaa=0,b:aab=1,c:abc=2}");
        s.test(least, "keys xa ya xb zb xc wc",
            "list 2 = 2:1{a:0{x:xa=0,y:ya=1},b:0{x:xb=2,z:zb=3},c:0{w:wc=5,x:xc=4}}");
        s.test(least, "keys aaaaaaaa aaaaaaab", "list 2 = 8:7{a:aaaaaaaa=0,b:aaaaaaab=1}");
        // At position 0, the greatest child has six keys of fifteen children, at 1, five keys of four.
        s.test(least, "keys aw0 ax0 ay0 az0 aw1 ax1 by1 cz1 dw1 ex1 fy1 gz1 hw0 ix0 jy0 kz0 lw0 mx0 ny0 oz0",
            "list 2 = 3:1{w:0{a:2{0:aw0=0,1:aw1=4},d:dw1=8,h:hw0=2,l:lw0=6},"
                + "x:0{a:2{0:ax0=1,1:ax1=5},e:ex1=9,i:ix0=3,m:mx0=7},y:0{a:ay0=2,b:by1=6,f:fy1=0,j:jy0=4,n:ny0=8},"
                + "z:0{a:az0=3,c:cz1=7,g:gz1=1,k:kz0=5,o:oz0=9}}");
        String most = "of several, the one with the most children";
        s.test(most, "keys ax ay bx bz", "list 2 = 2:1{x:0{a:ax=0,b:bx=2},y:ay=1,z:bz=3}");
        s.test(most, "keys aax aay bbx bcz", "list 2 = 3:1{a:2{x:aax=0,y:aay=1},b:bbx=2,c:bcz=3}");
        String lowest = "of several still, the lowest one";
        s.test(lowest, "keys ab ba", "list 2 = 2:0{a:ab=0,b:ba=1}");
        s.test(lowest, "keys ab ba axz", "list 2 = 2:0{a:ab=0,b:ba=1};3:axz=2");
        s.test(lowest, "keys xab xba", "list 2 = 3:1{a:xab=0,b:xba=1}");
        s.test(lowest, "keys aab abb bac", "list 2 = 3:0{a:1{a:aab=0,b:abb=1},b:bac=2}");
    }

    private void treeRuns() {
        String length = "The strategy chooses the tree for the length of the text; if there is none, it finds no "
            + "key and examines no character.";
        s.test(length, "keys ab ac abcd", "type abc", "find(2) = -1", "examined(2) = 0", "clear() = 3", "type a",
            "find(2) = -1", "examined(2) = 0", "clear() = 1", "find(2) = -1", "examined(2) = 0", "type abcd",
            "find(2) = 2", "examined(2) = 4", "clear() = 4", "type abcdefghi", "find(2) = -1", "examined(2) = 0",
            "clear() = 9", "type " + "a".repeat(60), "find(2) = -1", "examined(2) = 0");
        String node = "At a node, the character at its position is examined, and the strategy goes on with the "
            + "child for this character";
        s.test(node, "keys aa ab ba bb", "type ab", "find(2) = 1", "examined(2) = 2", "clear() = 2", "type bb",
            "find(2) = 3", "examined(2) = 2");
        String missing = "if there is none, it finds no key";
        s.test(missing, "keys aa ab ba bb", "type ca", "find(2) = -1", "examined(2) = 1", "clear() = 2", "type ac",
            "find(2) = -1", "examined(2) = 2", "clear() = 2", "type !!", "find(2) = -1", "examined(2) = 1");
        String leaf = "At a leaf, the characters at the positions at which no character was examined in this run";
        s.test(leaf, "keys abc abd xyz", "type xyz", "find(2) = 2", "examined(2) = 3", "clear() = 3", "type abc",
            "find(2) = 0", "examined(2) = 3");
        s.test("which are all if there was no node", "keys abcdefgh", "type abcdefgh", "find(2) = 0",
            "examined(2) = 8", "clear() = 8", "type abcdefgx", "find(2) = -1", "examined(2) = 8");
        String ascending = "are examined in ascending order, up to the first one that is different from that of the "
            + "key, which is examined, too.";
        s.test(ascending, "keys abc abd xyz", "type abz", "find(2) = -1", "examined(2) = 2", "clear() = 3", "type xbz",
            "find(2) = -1", "examined(2) = 3", "clear() = 3", "type xyq", "find(2) = -1", "examined(2) = 1");
        s.test("If there is none, the key is found.", "keys a b", "type a", "find(2) = 0", "examined(2) = 1",
            "clear() = 1", "type b", "find(2) = 1", "examined(2) = 1");
        s.test("If there is none, the key is found.",
            "keys aaaaaaaa baaaaaaa abaaaaaa aabaaaaa aaabaaaa aaaabaaa aaaaabaa aaaaaaba aaaaaaab", "type aaaaaaaa",
            "find(2) = 0", "examined(2) = 8", "clear() = 8", "type aaaaaaab", "find(2) = 8", "examined(2) = 8",
            "clear() = 8", "type bbaaaaaa", "find(2) = -1", "examined(2) = 2", "clear() = 8", "type aaaaaaac",
            "find(2) = -1", "examined(2) = 8");
    }

    /** The strategies round the ends of their range, in an object with a key and in one without. */
    private void strategies(String call) {
        String[] wrong = Sentences.each(call + "(", ")" + ARGUMENT, "-1", "4", "MIN", "MAX");
        s.test(NO_STRATEGY, wrong);
        s.test(NO_STRATEGY, Sentences.joined(Sentences.rows("keys a b"), wrong));
        s.test(NO_STRATEGY, Sentences.joined(Sentences.rows(Sentences.WITHOUT_TABLE), wrong));
        s.test(CANNOT_RUN, Sentences.WITHOUT_TABLE, "type 2r", call + "(3)" + STATE, "setLoad(90) = 100",
            call + "(3)" + STATE);
    }

    private void find() {
        s.in("Promise 15");
        String quote = "Runs a strategy with the text in the buffer, which stays.";
        runs(quote, "ab a", "ab", 0, 2, 3, 2, 2);
        runs(quote, "ab a", "", -1, 0, 0, 0, 0);
        runs(quote, "a", "a".repeat(60), -1, 0, 1, 0, 0);
        String number = "Returns the number of the key that is found, or -1.";
        runs(number, "b a", "b", 0, 1, 2, 1, 2);
        runs(number, "b a", "a", 1, 2, 1, 1, 2);
        s.test(number, Sentences.joined(Sentences.rows(Sentences.TWENTY_KEYS, "type kk9"),
            Sentences.each("find(", ") = 19", "0", "1", "2", "3"), Sentences.rows("remove(0) = 19"),
            Sentences.each("find(", ") = 18", "0", "1", "2"), Sentences.rows("remove(18) = 18"),
            Sentences.each("find(", ") = -1", "0", "1", "2")));
        strategies("find");
        s.test(CANNOT_RUN, "find(3) = -1", "find(2) = -1", "find(1) = -1", "find(0) = -1");
    }

    private void branch() {
        s.in("Promise 16");
        s.test("Runs a strategy with the text in the buffer, which stays.", "keys x ab", "type ab", "branch(0) = 1",
            "branch(1) = 1", "branch(2) = 1", "branch(3) = 1", "size(2) = 2", "find(0) = 1");
        s.test("Returns the branch of the key that is found, or -1.", "keys a b", "type a", "branch(0) = 0",
            "branch(1) = 0", "branch(2) = 0", "branch(3) = 0", "setBranch(0, 9) = 0", "branch(0) = 9", "branch(1) = 9",
            "branch(2) = 9", "branch(3) = 9", "clear() = 1", "branch(0) = -1", "branch(1) = -1", "branch(2) = -1",
            "branch(3) = -1");
        strategies("branch");
        s.test(CANNOT_RUN, "branch(3) = -1", "branch(2) = -1", "branch(1) = -1", "branch(0) = -1");
    }

    private void examined() {
        s.in("Promise 17");
        s.test("Runs a strategy with the text in the buffer, which stays.", "keys x ab", "type ab", "examined(0) = 2",
            "examined(1) = 2", "examined(2) = 2", "examined(3) = 2", "size(2) = 2", "find(0) = 1");
        s.test("Returns the number of characters examined.", "keys cat dog cow a", "type dog", "examined(0) = 4",
            "examined(1) = 5", "examined(2) = 3", "examined(3) = 4", "examined(0) = 4");
        s.test("Returns the number of characters examined.", "keys cat dog cow a", "examined(0) = 0",
            "examined(1) = 0", "examined(2) = 0", "examined(3) = 0");
        strategies("examined");
        s.test(CANNOT_RUN, "type a", "examined(3) = 0", "examined(2) = 0", "examined(1) = 0", "examined(0) = 0");
    }

    private void cost() {
        s.in("Promise 18");
        String sum = "the sum, over all keys, of the weight times the number of characters that are examined if it "
            + "is run with the key";
        s.test(sum, "keys cat dog cow a", "type zzz", "cost(0) = 14", "cost(1) = 15", "cost(2) = 10", "cost(3) = 13",
            "setWeight(2, 5) = 1", "cost(0) = 38", "cost(1) = 35", "cost(2) = 22", "cost(3) = 29", "size(2) = 3");
        s.test(sum, "keys a", "setWeight(0, 99) = 1", "cost(0) = 99", "cost(1) = 99", "cost(2) = 99", "cost(3) = 99");
        s.test(sum, "cost(0) = 0", "cost(1) = 0", "cost(2) = 0", "cost(3) = 0");
        s.test(sum, Sentences.joined(Sentences.rows(Sentences.LONGEST_KEYS), heaviest(20),
            Sentences.rows("cost(0) = 166320",
            "cost(2) = 15840", "cost(3) = 17820", "worst(0) = 160", "meanBits(0) = double 166320/1980")));
        s.test(sum, Sentences.TWENTY_KEYS, "cost(0) = 275", "cost(1) = 177", "cost(2) = 50", "cost(3) = 80");
        strategies("cost");
    }

    private static String[] heaviest(int keys) {
        String[] rows = new String[keys];
        for (int key = 0; key < keys; key++) {
            rows[key] = "setWeight(" + key + ", 99) = 1";
        }
        return rows;
    }

    private void worst() {
        s.in("Promise 19");
        String quote = "Returns the greatest number of characters that a strategy examines if it is run with a key.";
        s.test(quote, "keys cat dog cow a", "setWeight(3, 99) = 1", "worst(0) = 6", "worst(1) = 5", "worst(2) = 3",
            "worst(3) = 4");
        s.test(quote, Sentences.TWENTY_KEYS, "worst(0) = 30", "worst(1) = 14", "worst(2) = 3", "worst(3) = 5");
        s.test("Returns the number, 0 without keys.", "worst(0) = 0", "worst(1) = 0", "worst(2) = 0", "worst(3) = 0",
            "keys a", "worst(0) = 1", "worst(3) = 1", "remove(0) = 0", "worst(0) = 0", "worst(3) = 0");
        strategies("worst");
    }

    private void meanBits() {
        s.in("Promise 20");
        String quote = "Returns the mean cost of a strategy: its cost divided by the sum of all weights, both "
            + "converted to double.";
        s.test(quote, "keys cat dog cow a", "meanBits(0) = double 14/4", "meanBits(1) = double 15/4",
            "meanBits(2) = double 10/4", "meanBits(3) = double 13/4", "setWeight(2, 99) = 1",
            "meanBits(0) = double 602/102", "meanBits(1) = double 505/102", "meanBits(2) = double 304/102",
            "meanBits(3) = double 405/102");
        s.test(quote, "keys abc ab a", "meanBits(0) = double 6/3", "setWeight(1, 2) = 1", "setWeight(2, 4) = 1",
            "meanBits(0) = double 11/7", "meanBits(2) = double 11/7");
        s.test(quote, Sentences.TWENTY_KEYS, "meanBits(0) = double 275/20", "meanBits(1) = double 177/20",
            "meanBits(2) = double 50/20", "meanBits(3) = double 80/20");
        s.test("Returns the bits of the double, as by Double.doubleToLongBits.", "keys a",
            "meanBits(0) = 0x3FF0000000000000", "meanBits(3) = 0x3FF0000000000000", "setWeight(0, 99) = 1",
            "meanBits(1) = 0x3FF0000000000000", "remove(0) = 0", "keys abcdefgh", "meanBits(0) = 0x4020000000000000");
        s.test("Returns the bits of the double, as by Double.doubleToLongBits.", "keys a ab", "setWeight(0, 99) = 1",
            "meanBits(2) = double 101/100", "setWeight(1, 99) = 1", "meanBits(2) = double 297/198",
            "setWeight(0, 1) = 99", "meanBits(2) = double 199/100");
        s.test("Returns the bits of the double, as by Double.doubleToLongBits.", "keys ab abc",
            "meanBits(0) = double 5/2",
            "setWeight(0, 99) = 1", "meanBits(0) = double 201/100", "setWeight(0, 19) = 99",
            "meanBits(0) = double 41/20", "setWeight(1, 99) = 1", "meanBits(0) = double 335/118");
        s.test("Returns the bits of the double, as by Double.doubleToLongBits.", "keys abc abcd",
            "setWeight(1, 99) = 1",
            "meanBits(0) = double 399/100", "remove(0) = 1", "meanBits(0) = 0x4010000000000000", "type abcde",
            "add(0) = 1", "meanBits(0) = double 401/100");
        s.test("Returns the bits of the double, as by Double.doubleToLongBits.", "keys abc ab", "setWeight(1, 2) = 1",
            "meanBits(2) = 0x4002AAAAAAAAAAAB");
        strategies("meanBits");
        s.test("Throws `ArithmeticException` if there are no keys", "meanBits(0)" + Sentences.ARITHMETIC,
            "meanBits(1)" + Sentences.ARITHMETIC, "meanBits(2)" + Sentences.ARITHMETIC,
            "meanBits(3)" + Sentences.ARITHMETIC, "keys a", "meanBits(0) = double 1/1", "remove(0) = 0",
            "meanBits(0)" + Sentences.ARITHMETIC, "meanBits(3)" + Sentences.ARITHMETIC);
    }

    private void best() {
        s.in("Promise 21");
        s.test("Returns the strategy with the least cost among those that can be run", "keys cat dog cow a",
            "best() = 2");
        s.test("among those that can be run", Sentences.WITHOUT_TABLE, "best() = 2", "cost(0) = 30", "cost(1) = 30",
            "cost(2) = 13");
        s.test("of several, the lowest one", "best() = 0");
        s.test("of several, the lowest one", "keys a", "best() = 0", "cost(0) = 1", "cost(3) = 1");
        s.test("of several, the lowest one", "keys a ab abc", "cost(0) = 6", "cost(1) = 9", "cost(2) = 6",
            "cost(3) = 6", "best() = 0");
        s.test("of several, the lowest one", "keys a b", "cost(0) = 3", "cost(1) = 3", "cost(2) = 2", "best() = 2",
            "remove(0) = 1", "best() = 0");
    }
}
