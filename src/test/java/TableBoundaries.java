/** The sentences on strategy 3, on trees and tables, and on the promises 22 to 28. */
final class TableBoundaries {
    private static final String ARGUMENT = Sentences.ARGUMENT;
    private static final String STATE = Sentences.STATE;
    private static final String INDEX = Sentences.INDEX;
    private static final String NO_TABLE = "Throws `IllegalStateException` if there is no table";
    /** Keys that differ from the first one at one position each, so that all eight are selected. */
    private static final String EIGHT_POSITIONS =
        "keys aaaaaaaa baaaaaaa abaaaaaa aabaaaaa aaabaaaa aaaabaaa aaaaabaa aaaaaaba aaaaaaab";
    /** Keys without a table at the load 100 alone: all their hashes are different, but each seed fails. */
    private static final String SEEDS_FAIL = "keys 0 9 7 d 4 i r 2";

    private final Sentences s;

    private TableBoundaries(Sentences s) {
        this.s = s;
    }

    static void test(Sentences sentences) {
        TableBoundaries all = new TableBoundaries(sentences);
        sentences.in("Description");
        all.selectedPositions();
        all.hashes();
        all.slotsAndBuckets();
        all.places();
        all.displacements();
        all.seeds();
        all.tablesThatComeAndGo();
        all.runs();
        all.withoutKeysOrTable();
        all.trees();
        all.selected();
        all.hash();
        all.table();
        all.slot();
        all.displacement();
        all.densityBits();
    }

    private void selectedPositions() {
        String smallest = "The selected positions are the smallest set of positions from 0 to 7 such that any two "
            + "keys of the same length have different characters at one of these positions";
        s.test(smallest, "keys aaaaaaaa aaaaaaab", "selected() = 128");
        s.test(smallest, "keys aaaaaaaa baaaaaaa", "selected() = 1");
        s.test(smallest, EIGHT_POSITIONS, "selected() = 255", "remove(8) = 8", "selected() = 127");
        s.test(smallest, "keys aab bab abb", "selected() = 3", "remove(1) = 2", "selected() = 2");
        s.test(smallest, "keys ac bc xab xbb", "selected() = 3");
        s.test(smallest, "keys ab a abc", "selected() = 0");
        String least = "of several sets with the fewest positions, it is the one whose ascending sequence is "
            + "lexicographically least";
        s.test(least, "keys ab ba", "selected() = 1");
        s.test(least, "keys aaaa aabb abac bcaa", "selected() = 9");
        s.test(least, "keys aaab aaba abba", "selected() = 6");
        String empty = "it is empty if no two keys have the same length";
        s.test(empty, "selected() = 0");
        s.test(empty, "keys abcdefgh", "selected() = 0");
        s.test(empty, "keys a ab abc abcd abcde abcdef abcdefg abcdefgh", "selected() = 0", "type b", "add(0) = 8",
            "selected() = 1");
    }

    private void hashes() {
        s.test("h = s", "hash(0) = 0", "hash(1) = 1464411638", "hash(-1) = -1302580809");
        String selected = "for each selected position p in ascending order, h = 31 * h + c, where c is the code of the "
            + "character of t at p";
        s.test(selected, "type a", "hash(0) = 739900894", "clear() = 1", "type b", "hash(0) = 739900894");
        s.test(selected, "keys a b", "type a", "hash(0) = 1073873056", "hash(1) = -766578224", "clear() = 1", "type b",
            "hash(0) = -1755634474", "hash(1) = 697482786");
        s.test(selected, "keys aa ab", "type za", "hash(0) = 1814560574", "clear() = 2", "type aa",
            "hash(0) = 1814560574", "clear() = 2", "type ab", "hash(0) = -1017005896");
        String missing = "or 0 if t has no such position";
        s.test(missing, "keys aa ab", "type a", "hash(0) = 739900894", "hash(1) = -1101859829", "clear() = 1", "type b",
            "hash(0) = 739900894", "clear() = 1", "hash(0) = 0");
        s.test(missing, "keys aaaaaaaa aaaaaaab", "type aaaaaaa", "hash(0) = 884862225", "hash(1) = -957344785",
            "clear() = 7", "type aaaaaaaa", "hash(0) = 1958996977", "hash(1) = 117574863", "append(0x62) = 9",
            "hash(0) = -1596593706", "hash(1) = 857639054");
        s.test("then h = 31 * h + length of t", "type a", "hash(0) = 739900894", "append(0x61) = 2",
            "hash(0) = 1479801789", "clear() = 2", "type " + "z".repeat(60), "hash(0) = 1449611182",
            "hash(-1) = -15062780");
    }

    /** The slots and the buckets of as many keys as there are numbers, for a load. */
    private void sizes(String quote, int load, int[] slots) {
        for (int count = 1; count <= slots.length; count++) {
            StringBuilder keys = new StringBuilder("keys");
            for (int key = 0; key < count; key++) {
                keys.append(' ').append("k".repeat(1 + key / 10)).append(key % 10);
            }
            s.test(quote, keys.toString(), "setLoad(" + load + ") = 100", "table(0) = " + slots[count - 1],
                "table(1) = " + (count + 2) / 3, "slot(" + slots[count - 1] + ")" + INDEX,
                "displacement(" + (count + 2) / 3 + ")" + INDEX);
        }
    }

    private void slotsAndBuckets() {
        String load = "For n keys and a load of L percent, 50 to 100, at first 100";
        s.test(load, "keys a b", "table(0) = 2", "setLoad(50) = 100", "table(0) = 4", "setLoad(49)" + ARGUMENT,
            "setLoad(101)" + ARGUMENT, "table(0) = 4", "setLoad(100) = 50", "table(0) = 2");
        String slots = "where m is 100 * n / L, rounded up";
        sizes(slots, 100, new int[] {1, 2, 3, 4, 5, 6, 7, 8, 9, 10, 11, 12, 13, 14, 15, 16, 17, 18, 19, 20});
        sizes(slots, 99, new int[] {2, 3, 4, 5, 6, 7, 8, 9, 10, 11, 12, 13, 14, 15, 16, 17, 18, 19, 20, 21});
        sizes(slots, 75, new int[] {2, 3, 4, 6, 7, 8, 10, 11, 12, 14, 15, 16, 18, 19, 20, 22, 23, 24, 26, 27});
        sizes(slots, 51, new int[] {2, 4, 6, 8, 10, 12, 14, 16, 18, 20, 22, 24, 26, 28, 30, 32, 34, 36, 38, 40});
        sizes(slots, 50, new int[] {2, 4, 6, 8, 10, 12, 14, 16, 18, 20, 22, 24, 26, 28, 30, 32, 34, 36, 38, 40});
        String buckets = "and there are b = (n + 2) / 3 buckets, rounded down";
        s.test(buckets, "keys a", "table(1) = 1", "displacement(0) = 0", "displacement(1)" + INDEX);
        s.test(buckets, "keys a b c", "table(1) = 1", "displacement(1)" + INDEX);
        s.test(buckets, "keys a b c d", "table(1) = 2", "displacement(1) = 3", "displacement(2)" + INDEX);
        s.test(buckets, Sentences.TWENTY_KEYS, "table(1) = 7", "displacement(6) = 0", "displacement(7)" + INDEX);
        s.test(buckets, Sentences.NINETEEN_NODES, "table(1) = 7", "displacement(6) = 1", "displacement(7)" + INDEX,
            "list 3 = 12/01234/5,0,2,11,15,19,1/aaaaaaaa,baaabbbb,abbbabab,bbaaaabb,abaaaaab,babbabba,aabaabbb,"
                + "bbbababa,aaaabbab,aabbabaa,abaabbba,bbbbabbb,baabbbaa,abbabaaa,aaabbaba,ababbabb,baaaaaba,"
                + "bbabbbab,bababaab,bbabaaaa");
    }

    private void places() {
        // The hashes of cat for 3 and of dog for 4 are negative.
        String floor = "the bucket of t is Math.floorMod(hash for s, b), and the slot of t for a displacement d is "
            + "Math.floorMod((hash for s + 1) + d * ((hash for s + 2) | 1), m)";
        s.test(floor, "keys cat dog cow a", "list 3 = 3/2/1,0/a,cow,cat,dog");
        s.test(floor, "keys cat dog cow a", "setLoad(70) = 100", "list 3 = 0/2/0,16/-,a,dog,cow,-,cat");
        s.test(floor, Sentences.TWENTY_KEYS, "setLoad(50) = 100",
            "list 3 = 0/12/1,2,0,2,12,0,0/-,kk9,k2,kk1,-,k8,-,-,-,-"
            + ",k0,-,-,kk4,-,-,-,kk0,k7,-,k9,-,kk5,-,-,k4,k6,k1,-,k3,kk7,kk3,-,-,-,kk6,k5,kk2,kk8,-");
    }

    private void displacements() {
        String order = "the buckets that contain keys are considered in descending order of the numbers of their keys";
        s.test(order, "keys w o i x", "table(4) = 3", "list 3 = 0/0/1,0/x,i,w,o");
        s.test("those with equal numbers in ascending order", "keys q h y o", "table(4) = 2",
            "list 3 = 12/0/0,1/q,y,h,o");
        String least = "each of them gets the least displacement from 0 to 99";
        s.test(least, "keys a t7 5 n9 kx r2 y 81 p b4 6 fz", "table(3) = 99", "displacement(2) = 99",
            "list 3 = 0/0/7,1,99,0/p,y,b4,r2,kx,81,5,t7,fz,n9,6,a");
        s.test(least, "keys zo ee f dz vp as dl dr w x c 0", "table(2) = 9",
            "list 3 = 9/01/4,18,1,0/w,dl,dr,vp,dz,c,as,ee,zo,0,f,x");
        String taken = "for which the slots of its keys are different and not taken, and takes these slots";
        s.test(taken, "keys a b c d", "list 3 = 48/0/1,3/a,d,c,b", "slot(0) = 0", "slot(1) = 3", "slot(2) = 2",
            "slot(3) = 1");
        s.test("if there is none, the seed fails", "keys a b", "table(2) = 30", "list 3 = 30/0/0/b,a");
        s.test("The other buckets have the displacement 0.", "keys d h m k", "table(4) = 4", "displacement(0) = 0",
            "displacement(1) = 0", "list 3 = 42/0/0,0/m,h,d,k");
        s.test("The other buckets have the displacement 0.", "keys 7 4 6 n", "table(2) = 66",
            "list 3 = 66/0/0,0/7,4,6,n");
        s.test("The other buckets have the displacement 0.", "keys w o i x", "displacement(0) = 1", "remove(0) = 3",
            "remove(0) = 2", "remove(0) = 1", "remove(0) = 0", "keys d h m k", "displacement(0) = 0",
            "displacement(1) = 0");
        s.test("The other buckets have the displacement 0.", Sentences.TWENTY_KEYS, "setLoad(50) = 100",
            "displacement(4) = 12", "displacement(6) = 0", "table(4) = 6");
    }

    private void seeds() {
        String first = "The seed of the table is the first one among 0, 3, 6, ..., 297 that does not fail.";
        s.test(first, "keys a", "table(2) = 0");
        s.test(first, "keys cat dog cow a", "table(2) = 3");
        s.test(first, "keys q h y o", "table(2) = 12");
        s.test(first, "keys h j r 4", "table(2) = 99");
        s.test(first, "keys 3 k 2 j", "table(2) = 102");
        s.test(first, "keys i x f p 9 2 g 5", "table(2) = 198");
        s.test(first, "keys 0 s y 7 z f l 3", "table(2) = 201");
        s.test(first, "keys k 6 w 5 a l g s m t j 7 1 b 8 i", "table(2) = 297",
            "list 3 = 297/0/0,7,1,0,14,1/8,b,5,t,m,1,s,7,g,i,j,k,w,l,a,6");
        // With the seed 300 there would be a table of these keys.
        s.test("If all fail, or if there are no keys, there is no table.",
            "keys k 3 7k z g y 8 s t l0 z3 df 9n 2s rp a0", "table(2)" + STATE, "find(3)" + STATE);
        s.test("If all fail, or if there are no keys, there is no table.", Sentences.WITHOUT_TABLE, "table(0)" + STATE,
            "table(1)" + STATE, "slot(0)" + STATE, "displacement(0)" + STATE, "densityBits()" + STATE,
            "listing(3, -1)" + STATE);
        s.test("If all fail, or if there are no keys, there is no table.", "table(0)" + STATE, "table(1)" + STATE,
            "slot(0)" + STATE, "displacement(0)" + STATE, "densityBits()" + STATE, "listing(3, -1)" + STATE, "keys a",
            "table(0) = 1", "remove(0) = 0", "table(0)" + STATE);
    }

    /** Each call that needs the table is the first one to ask for it after it came or went. */
    private void tablesThatComeAndGo() {
        String quote = "If all fail, or if there are no keys, there is no table.";
        String[] calls = {"find(3)", "branch(3)", "examined(3)", "cost(3)", "worst(3)", "meanBits(3)", "table(3)",
            "slot(0)", "displacement(0)", "densityBits()", "listing(3, 0)"};
        String[] due = {"2", "2", "2", "16", "2", "double 16/8", "15", "2", "13", "float 8/9", "'0'"};
        for (int i = 0; i < calls.length; i++) {
            String answered = calls[i] + " = " + due[i];
            String refused = calls[i] + STATE;
            s.test(quote, SEEDS_FAIL, "setLoad(99) = 100", "type 7", answered, "setLoad(100) = 99", refused,
                "setLoad(90) = 100", answered);
            s.test(quote, SEEDS_FAIL, "type 7", refused, "clear() = 1", "type load=90", "execute() = 1", "type 7",
                answered, "clear() = 1", "type load=100", "execute() = 1", refused);
            s.test(quote, SEEDS_FAIL, "setLoad(90) = 100", "type 7", "save() = 8", "setLoad(100) = 90", refused,
                "restore() = 8", answered, "setLoad(100) = 90", "save() = 8", "setLoad(90) = 100", answered,
                "restore() = 8", refused);
            s.test(quote, "keys 0 9 7 d 4 i r", "table(0) = 7", "type 2", "add(7) = 7", "type 7", refused,
                "remove(7) = 7", "setLoad(90) = 100", "clear() = 1", "type add:2=7", "execute() = 1", "type 7",
                answered);
        }
        s.test(quote, SEEDS_FAIL, "selected() = 1", "best() = 2", "cost(0) = 36", "cost(1) = 21", "cost(2) = 8",
            "list 2 = 1:0{0:0=0,2:2=7,4:4=4,7:7=2,9:9=1,d:d=3,i:i=5,r:r=6}", "setLoad(99) = 100",
            "list 3 = 0/0/13,1,15/7,2,d,9,4,r,i,0,-", "setLoad(50) = 99",
            "list 3 = 0/0/3,0,3/i,2,7,-,-,-,-,9,-,-,r,d,-,0,4,-");
        // The hashes of these two are equal for every seed, so no load helps.
        s.test(quote, "keys 44 2r 24", "find(3)" + STATE, "setLoad(50) = 100", "find(3)" + STATE, "table(0)" + STATE,
            "remove(0) = 2", "type 2r", "find(3) = 0");
    }

    private void runs() {
        String examines = "The strategy examines the characters at the selected positions that the text has";
        s.test(examines, "keys aa ab", "type a", "examined(3) = 0", "find(3) = -1", "append(0x61) = 2",
            "examined(3) = 3", "append(0x61) = 3", "examined(3) = 1", "find(3) = -1");
        s.test(examines, "keys aaaaaaaa aaaaaaab", "examined(3) = 0", "type aaaaaaa", "examined(3) = 0",
            "append(0x61) = 8", "examined(3) = 9", "find(3) = 0", "append(0x62) = 9", "examined(3) = 1",
            "find(3) = -1");
        s.test(examines, "keys aaaa aabb abac bcaa", "type aaa", "examined(3) = 1", "clear() = 3", "type aabbb",
            "examined(3) = 2");
        String again = "if the text is matched then, the characters examined there count again";
        s.test(again, EIGHT_POSITIONS, "type aaaaaaaa", "find(3) = 0", "examined(3) = 16", "clear() = 8",
            "type aaaaaaab", "find(3) = 8", "examined(3) = 16");
        s.test(again, "keys a", "type b", "examined(3) = 1", "find(3) = -1");
        String free = "If no key took the slot of the text for the displacement of its bucket, it finds no key";
        s.test(free, "keys a b", "setLoad(50) = 100", "list 3 = 0/0/0/a,-,b,-", "type j", "find(3) = -1",
            "examined(3) = 1", "branch(3) = -1", "clear() = 1", "type k", "find(3) = -1", "examined(3) = 1");
        String matched = "otherwise the text is matched with that key";
        s.test(matched, "keys a b", "setLoad(50) = 100", "type c", "find(3) = -1", "examined(3) = 2", "clear() = 1",
            "type b", "find(3) = 1", "examined(3) = 2");
        s.test(matched, "keys abc xyz", "setLoad(50) = 100", "type abd", "find(3) = -1", "examined(3) = 4");
    }

    private void withoutKeysOrTable() {
        s.test("Without keys, it finds no key and examines no character, like the others", "type abc", "find(3) = -1",
            "examined(3) = 0", "branch(3) = -1", "find(0) = -1", "examined(0) = 0", "find(1) = -1", "examined(1) = 0",
            "find(2) = -1", "examined(2) = 0");
        s.test("Without keys, it finds no key and examines no character, like the others", "keys a b", "remove(0) = 1",
            "remove(0) = 0", "type a", "find(3) = -1", "examined(3) = 0", "find(2) = -1", "examined(2) = 0");
        s.test("and all costs are 0", "cost(0) = 0", "cost(1) = 0", "cost(2) = 0", "cost(3) = 0", "worst(3) = 0");
        s.test("if there are keys but no table, it cannot be run", Sentences.WITHOUT_TABLE, "find(3)" + STATE,
            "branch(3)" + STATE, "examined(3)" + STATE, "cost(3)" + STATE, "worst(3)" + STATE, "meanBits(3)" + STATE,
            "type 2r", "find(0) = 6", "find(1) = 6", "find(2) = 6", "best() = 2", "remove(1) = 8", "find(3) = 5");
    }

    private void trees() {
        s.in("Promise 22");
        s.test("Returns a size of the trees of strategy 2.", "keys aaa aab aba abb baa bab bba bbb xx yy",
            "trees(0) = 2", "trees(1) = 8", "trees(2) = 10", "trees(3) = 3");
        s.test("0 for the number of trees that are no children", "keys a b ab abc abd", "trees(0) = 3",
            "remove(2) = 4", "trees(0) = 2");
        s.test("1 for the number of nodes", "keys a ab abc", "trees(1) = 0", "type b", "add(0) = 3", "trees(1) = 1");
        s.test("2 for the number of leaves", Sentences.TWENTY_KEYS, "trees(2) = 20", "remove(0) = 19", "trees(2) = 19");
        String height = "3 for the greatest number of nodes, leaves not counted, on a way to a leaf";
        s.test(height, "keys a", "trees(3) = 0", "type b", "add(0) = 1", "trees(3) = 1");
        s.test(height, EIGHT_POSITIONS, "trees(3) = 8", "trees(1) = 8", "trees(2) = 9", "trees(0) = 1");
        s.test(height, "keys aa ab ba bb c", "trees(3) = 2", "trees(1) = 3");
        s.test("Returns the size, 0 without keys.", "trees(0) = 0", "trees(1) = 0", "trees(2) = 0", "trees(3) = 0",
            "keys a b", "trees(3) = 1", "remove(0) = 1", "remove(0) = 0", "trees(0) = 0", "trees(1) = 0",
            "trees(2) = 0", "trees(3) = 0");
        s.test("Throws `IllegalArgumentException` if what is not from 0 to 3", Sentences.joined(
            Sentences.each("trees(", ")" + ARGUMENT, "-1", "4", "MIN", "MAX"), Sentences.rows("keys a"),
            Sentences.each("trees(", ")" + ARGUMENT, "-1", "4", "MIN", "MAX")));
    }

    private void selected() {
        s.in("Promise 23");
        String quote = "Returns the set of positions, bit p for position p.";
        s.test(quote, "selected() = 0", "keys aaaaaaaa aaaaaaab", "selected() = 128", "remove(0) = 1",
            "selected() = 0");
        s.test(quote, "keys aaaaaaaa baaaaaaa", "selected() = 1");
        s.test(quote, EIGHT_POSITIONS, "selected() = 255");
    }

    private void hash() {
        s.in("Promise 24");
        String quote = "Returns the hash of the text in the buffer for a seed.";
        s.test(quote, "hash(0) = 0", "hash(MAX) = 1858271367", "hash(MIN) = -1134115120", "size(2) = 0");
        s.test(quote, "type " + "z".repeat(60), "hash(0) = 1449611182", "hash(1) = -1381719976",
            "hash(-1) = -15062780", "hash(MAX) = -1148624780", "hash(MIN) = 315491710", "size(2) = 60");
        s.test(quote, Sentences.WITHOUT_TABLE, "hash(0) = 0", "selected() = 3");
    }

    private void table() {
        s.in("Promise 25");
        s.test("0 for the number of slots", "keys a b c", "table(0) = 3", "setLoad(99) = 100", "table(0) = 4");
        s.test("0 for the number of slots", Sentences.TWENTY_KEYS, "setLoad(50) = 100", "table(0) = 40");
        s.test("1 for the number of buckets", "keys a", "table(1) = 1", "type b", "add(0) = 1", "table(1) = 1");
        s.test("2 for the seed", "keys k 6 w 5 a l g s m t j 7 1 b 8 i", "table(2) = 297");
        s.test("3 for the greatest displacement", "keys a", "table(3) = 0");
        s.test("3 for the greatest displacement", "keys a t7 5 n9 kx r2 y 81 p b4 6 fz", "table(3) = 99");
        s.test("3 for the greatest displacement", Sentences.TWENTY_KEYS, "table(3) = 66", "setLoad(50) = 100",
            "table(3) = 12");
        s.test("4 for the greatest number of keys in a bucket", "keys a", "table(4) = 1");
        s.test("4 for the greatest number of keys in a bucket", "keys d h m k", "table(4) = 4", "table(1) = 2");
        s.test("4 for the greatest number of keys in a bucket", Sentences.TWENTY_KEYS, "table(4) = 6", "table(1) = 7");
        s.test("Throws `IllegalArgumentException` if what is not from 0 to 4", Sentences.joined(
            Sentences.each("table(", ")" + ARGUMENT, "-1", "5", "MIN", "MAX"), Sentences.rows("keys a"),
            Sentences.each("table(", ")" + ARGUMENT, "-1", "5", "MIN", "MAX")));
        String[] all = Sentences.each("table(", ")" + STATE, "0", "1", "2", "3", "4");
        s.test(NO_TABLE, all);
        s.test(NO_TABLE, Sentences.joined(Sentences.rows(Sentences.WITHOUT_TABLE), all));
        s.test(NO_TABLE, Sentences.joined(Sentences.rows("keys a", "table(0) = 1", "remove(0) = 0"), all));
    }

    private void slot() {
        s.in("Promise 26");
        s.test("Returns the key that took a slot.", "keys cat dog cow a", "slot(0) = 3", "slot(1) = 2", "slot(2) = 0",
            "slot(3) = 1");
        String none = "Returns the number of the key, or -1 if no key took it.";
        s.test(none, "keys a b", "setLoad(50) = 100", "slot(0) = 0", "slot(1) = -1", "slot(2) = 1", "slot(3) = -1");
        s.test(none, Sentences.TWENTY_KEYS, "setLoad(50) = 100", "slot(0) = -1", "slot(1) = 19", "slot(39) = -1",
            "slot(38) = 18");
        s.test(NO_TABLE, "slot(0)" + STATE, "slot(-1)" + STATE, "keys a", "slot(0) = 0", "remove(0) = 0",
            "slot(0)" + STATE);
        s.test(NO_TABLE, Sentences.WITHOUT_TABLE, "slot(0)" + STATE, "slot(8)" + STATE);
        s.test("Throws `IndexOutOfBoundsException` if there is no such slot",
            Sentences.joined(Sentences.rows("keys a b"),
            Sentences.each("slot(", ")" + INDEX, "-1", "2", "MIN", "MAX"), Sentences.rows("setLoad(50) = 100",
                "slot(3) = -1", "slot(4)" + INDEX)));
        s.test("Throws `IndexOutOfBoundsException` if there is no such slot", Sentences.TWENTY_KEYS,
            "slot(20)" + INDEX, "slot(19) = 8", "setLoad(50) = 100", "slot(40)" + INDEX);
    }

    private void displacement() {
        s.in("Promise 27");
        s.test("Returns the displacement of a bucket.", Sentences.TWENTY_KEYS, "displacement(0) = 1",
            "displacement(1) = 66", "displacement(2) = 0", "displacement(3) = 19", "displacement(4) = 14",
            "displacement(5) = 1", "displacement(6) = 0");
        s.test(NO_TABLE, "displacement(0)" + STATE, "displacement(-1)" + STATE, "keys a", "displacement(0) = 0",
            "remove(0) = 0", "displacement(0)" + STATE);
        s.test(NO_TABLE, Sentences.WITHOUT_TABLE, "displacement(0)" + STATE, "displacement(3)" + STATE);
        s.test("Throws `IndexOutOfBoundsException` if there is no such bucket", Sentences.joined(
            Sentences.rows("keys a b c"), Sentences.each("displacement(", ")" + INDEX, "-1", "1", "MIN", "MAX")));
        s.test("Throws `IndexOutOfBoundsException` if there is no such bucket", Sentences.TWENTY_KEYS,
            "displacement(7)" + INDEX, "displacement(6) = 0", "remove(19) = 19", "displacement(6) = 0",
            "displacement(7)" + INDEX, "remove(18) = 18", "displacement(6)" + INDEX, "displacement(5) = 84");
    }

    private void densityBits() {
        s.in("Promise 28");
        String quote = "Returns the density of the table: the number of keys divided by the number of slots, both "
            + "converted to float.";
        s.test(quote, "keys a", "densityBits() = float 1/1", "setLoad(99) = 100", "densityBits() = float 1/2");
        s.test(quote, "keys a b", "setLoad(99) = 100", "densityBits() = float 2/3", "setLoad(50) = 99",
            "densityBits() = float 2/4");
        s.test(quote, "keys a b c", "setLoad(75) = 100", "densityBits() = float 3/4", "setLoad(67) = 75",
            "densityBits() = float 3/5");
        s.test(quote, Sentences.TWENTY_KEYS, "setLoad(99) = 100", "densityBits() = float 20/21", "setLoad(75) = 99",
            "densityBits() = float 20/27", "setLoad(50) = 75", "densityBits() = float 20/40");
        s.test("Returns the bits of the float, as by Float.floatToIntBits.", "keys a b", "densityBits() = 0x3F800000",
            "setLoad(67) = 100", "densityBits() = 0x3F2AAAAB", "setLoad(50) = 67", "densityBits() = 0x3F000000");
        s.test(NO_TABLE, "densityBits()" + STATE, "keys a", "densityBits() = 0x3F800000", "remove(0) = 0",
            "densityBits()" + STATE);
        s.test(NO_TABLE, Sentences.WITHOUT_TABLE, "densityBits()" + STATE);
    }
}
