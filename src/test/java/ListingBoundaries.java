/** The sentences on listings, and on the promises 29 to 31. */
final class ListingBoundaries {
    private static final String ARGUMENT = Sentences.ARGUMENT;
    private static final String STATE = Sentences.STATE;
    private static final String INDEX = Sentences.INDEX;

    private final Sentences s;

    private ListingBoundaries(Sentences s) {
        this.s = s;
    }

    static void test(Sentences sentences) {
        ListingBoundaries all = new ListingBoundaries(sentences);
        sentences.in("Description");
        all.keyListings();
        all.treeListings();
        all.tableListings();
        all.listing();
        all.wrongListings();
        all.save();
        all.restore();
        all.whatRestoreLeaves();
    }

    private void keyListings() {
        String entry = "The entry of a key is its text, an equals sign and its branch.";
        s.test(entry, "type a", "add(0) = 0", "list 0 = a=0", "list 1 = a=0", "list 2 = 1:a=0");
        s.test(entry, "type abcdefgh", "add(9) = 0", "list 0 = abcdefgh=9", "setBranch(0, 3) = 9",
            "list 0 = abcdefgh=3",
            "list 2 = 8:abcdefgh=3");
        String numbers = "The listing of strategy 0 consists of the entries of all keys in ascending order of their "
            + "numbers, separated by commas";
        s.test(numbers, "list 0 = ");
        s.test(numbers, "keys b a c", "list 0 = b=0,a=1,c=2", "remove(0) = 2", "list 0 = a=1,c=2");
        s.test(numbers, Sentences.LONGEST_KEYS, "listing(0, -1) = 219", "listing(0, 0) = 'a'", "listing(0, 9) = '0'",
            "listing(0, 10) = ','", "listing(0, 218) = '9'", "listing(0, 219)" + INDEX);
        String texts = "that of strategy 1 is the same for the order of texts";
        s.test(texts, "list 1 = ");
        s.test(texts, "keys b ab a 0 abc", "list 1 = 0=3,a=2,ab=1,abc=4,b=0");
        s.test(texts, Sentences.LONGEST_KEYS, "listing(1, -1) = 219", "listing(1, 218) = '9'",
            "listing(1, 219)" + INDEX);
    }

    private void treeListings() {
        String lengths = "for each length of a key in ascending order, separated by semicolons: the length, a colon "
            + "and the tree";
        s.test(lengths, "list 2 = ");
        s.test(lengths, "keys abcdefgh a", "list 2 = 1:a=1;8:abcdefgh=0");
        s.test("a leaf is written as the entry of its key", "keys abc", "list 2 = 3:abc=0");
        String node = "a node is written as its position, an opening brace, for each child, in ascending order of its "
            + "characters, the character, a colon and the child, separated by commas, and a closing brace";
        s.test(node, "keys z a 9 0", "list 2 = 1:0{0:0=3,9:9=2,a:a=1,z:z=0}");
        s.test(node, "keys bb ab ba aa c", "list 2 = 1:c=4;2:0{a:1{a:aa=3,b:ab=1},b:1{a:ba=2,b:bb=0}}");
        s.test(node, "keys aaaaaaaa baaaaaaa abaaaaaa aabaaaaa aaabaaaa aaaabaaa aaaaabaa aaaaaaba aaaaaaab",
            "list 2 = 8:0{a:1{a:2{a:3{a:4{a:5{a:6{a:7{a:aaaaaaaa=0,b:aaaaaaab=8},b:aaaaaaba=7},b:aaaaabaa=6},"
                + "b:aaaabaaa=5},b:aaabaaaa=4},b:aabaaaaa=3},b:abaaaaaa=2},b:baaaaaaa=1}");
        // Nineteen nodes: no listing is longer.
        s.test(node, Sentences.NINETEEN_NODES,
            "trees(1) = 19", "trees(2) = 20", "list 2 = 8:0{a:1{a:2{a:3{a:4{a:aaaaaaaa=0,b:aaaabbab=1},b:aaabbaba=2},"
                + "b:3{a:aabaabbb=3,b:aabbabaa=4}},b:2{a:3{a:4{a:abaaaaab=5,b:abaabbba=6},b:ababbabb=7},"
                + "b:3{a:abbabaaa=8,b:abbbabab=9}}},b:1{a:2{a:3{a:4{a:baaaaaba=0,b:baaabbbb=1},b:baabbbaa=2},"
                + "b:3{a:bababaab=3,b:babbabba=4}},b:2{a:3{a:bbaaaabb=5,b:4{a:bbabaaaa=6,b:bbabbbab=7}},"
                + "b:3{a:bbbababa=8,b:bbbbabbb=9}}}}");
        s.test(node, Sentences.LONGEST_KEYS, "listing(2, -1) = 264", "listing(2, 0) = '8'", "listing(2, 2) = '7'",
            "listing(2, 263) = '}'", "listing(2, 264)" + INDEX);
    }

    private void tableListings() {
        String seed = "The listing of strategy 3 consists of the seed, a slash";
        s.test(seed, "keys a", "list 3 = 0//0/a");
        s.test(seed, "keys y 4 k 5", "list 3 = 9/0/2,1/5,k,4,y");
        s.test(seed, "keys h j r 4", "list 3 = 99/0/0,0/4,h,j,r");
        s.test(seed, "keys 3 k 2 j", "list 3 = 102/0/1,3/j,k,2,3");
        s.test(seed, "keys i x f p 9 2 g 5", "list 3 = 198/0/7,0,2/g,2,x,i,f,p,5,9");
        s.test(seed, "keys 0 s y 7 z f l 3", "list 3 = 201/0/0,0,1/0,l,f,y,s,3,z,7");
        s.test(seed, "keys k 6 w 5 a l g s m t j 7 1 b 8 i",
            "list 3 = 297/0/0,7,1,0,14,1/8,b,5,t,m,1,s,7,g,i,j,k,w,l,a,6");
        String positions = "the selected positions in ascending order without separators, a slash";
        s.test(positions, "keys abcdefgh", "list 3 = 0//0/abcdefgh");
        s.test(positions, "keys aaaa aabb abac bcaa", "list 3 = 0/03/0,0/abac,aaaa,bcaa,aabb");
        s.test(positions, "keys aaaaaaaa baaaaaaa abaaaaaa aabaaaaa aaabaaaa aaaabaaa aaaaabaa aaaaaaba aaaaaaab",
            "list 3 = 3/01234567/3,1,4/"
                + "aaaaaaaa,aaabaaaa,aaaabaaa,aabaaaaa,abaaaaaa,aaaaabaa,aaaaaaab,aaaaaaba,baaaaaaa");
        String displacements = "the displacements of all buckets in ascending order, separated by commas, a slash";
        s.test(displacements, "keys 6 j 7", "list 3 = 0/0/10/7,6,j");
        s.test(displacements, "keys d h m k", "list 3 = 42/0/0,0/m,h,d,k");
        s.test(displacements, "keys a t7 5 n9 kx r2 y 81 p b4 6 fz",
            "list 3 = 0/0/7,1,99,0/p,y,b4,r2,kx,81,5,t7,fz,n9,6,a");
        String slots = "for all slots in ascending order, separated by commas, the text of the key that took it, or a "
            + "minus sign.";
        s.test(slots, "keys a", "setLoad(50) = 100", "list 3 = 0//0/a,-");
        s.test(slots, "keys a b c", "setLoad(50) = 100", "list 3 = 0/0/7/-,c,-,b,-,a");
        s.test(slots, Sentences.LONGEST_KEYS, "setLoad(50) = 100", "listing(3, -1) = 237", "listing(3, 237)" + INDEX);
    }

    private void listing() {
        s.in("Promise 29");
        s.test("Returns a character of the listing of a strategy, or its length.", "keys b a", "listing(0, 0) = 'b'",
            "listing(1, 0) = 'a'", "listing(2, 0) = '1'", "listing(0, -1) = 7", "listing(1, -1) = 7",
            "listing(2, -1) = 16");
        String index = "- `index`: the index, from 0, or -1 for the length";
        s.test(index, "keys a", "listing(0, -1) = 3", "listing(0, 0) = 'a'", "listing(0, 1) = '='",
            "listing(0, 2) = '0'", "listing(0, 3)" + INDEX);
        s.test(index, "listing(0, -1) = 0", "listing(1, -1) = 0", "listing(2, -1) = 0", "listing(0, 0)" + INDEX,
            "listing(1, 0)" + INDEX, "listing(2, 0)" + INDEX);
        s.test("Returns the code of the character or the length.", "keys ab", "listing(0, 0) = 97",
            "listing(0, 1) = 98",
            "listing(0, 2) = 61", "listing(0, 3) = 48", "listing(0, -1) = 4", "listing(3, -1) = 7",
            "listing(3, 1) = 47");
    }

    private void wrongListings() {
        String[] strategies = Sentences.rows("listing(-1, 0)" + ARGUMENT, "listing(4, 0)" + ARGUMENT,
            "listing(4, -1)" + ARGUMENT, "listing(MIN, 0)" + ARGUMENT, "listing(MAX, MAX)" + ARGUMENT);
        s.test("Throws `IllegalArgumentException` if there is no such strategy", strategies);
        s.test("Throws `IllegalArgumentException` if there is no such strategy",
            Sentences.joined(Sentences.rows("keys a"), strategies));
        String table = "Throws `IllegalStateException` if the strategy is 3 and there is no table, as without keys";
        s.test(table, "listing(3, -1)" + STATE, "listing(3, 0)" + STATE, "listing(3, MIN)" + STATE, "keys a",
            "listing(3, -1) = 6", "remove(0) = 0", "listing(3, -1)" + STATE);
        s.test(table, Sentences.WITHOUT_TABLE, "listing(3, -1)" + STATE, "listing(3, 0)" + STATE,
            "listing(2, 0) = '1'", "listing(1, 0) = '2'", "listing(0, 0) = '2'");
        String index = "Throws `IndexOutOfBoundsException` if index is not -1 and there is no such index";
        for (int strategy = 0; strategy < 4; strategy++) {
            int length = new int[] {3, 3, 5, 6}[strategy];
            s.test(index, Sentences.joined(Sentences.rows("keys a", "listing(" + strategy + ", -1) = " + length),
                Sentences.each("listing(" + strategy + ", ", ")" + INDEX, "-2", "MIN", "MAX", String.valueOf(length),
                    String.valueOf(length + 1)), Sentences.rows("setBranch(0, 7) = 0",
                    "listing(" + strategy + ", " + (length - 1) + ") = " + (strategy == 3 ? "'a'" : "'7'"))));
        }
        s.test(index, Sentences.LONGEST_KEYS, "listing(0, 219)" + INDEX, "remove(19) = 19", "listing(0, 208)" + INDEX,
            "listing(0, 207) = '8'");
    }

    private void save() {
        s.in("Promise 30");
        String saves = "Saves the keys with their branches and weights, and the load";
        s.test(saves, "keys a b", "setWeight(1, 99) = 1", "setBranch(0, 9) = 0", "setLoad(50) = 100", "save() = 2",
            "remove(0) = 1", "setWeight(0, 5) = 99", "setBranch(0, 5) = 1", "setLoad(80) = 50", "type c", "add(3) = 1",
            "restore() = 2", "list 0 = a=9,b=1", "property(0, 1) = 1", "property(1, 1) = 99", "size(1) = 50",
            "table(0) = 4");
        s.test(saves, "keys a", "type abc", "save() = 1", "list 0 = a=0", "size(2) = 3", "size(1) = 100");
        String replaces = "replacing what was saved before";
        s.test(replaces, "keys a b", "setLoad(60) = 100", "save() = 2", "remove(0) = 1", "setLoad(70) = 60",
            "save() = 1", "remove(0) = 0", "setLoad(80) = 70", "restore() = 1", "list 0 = b=1", "size(1) = 70");
        s.test(replaces, Sentences.TWENTY_KEYS, "save() = 20", "type load=60;del:k0", "execute() = 2",
            "restore() = 20", "remove(0) = 19", "save() = 19", "remove(0) = 18", "restore() = 19",
            "character(0, 1) = '1'",
            "size(1) = 100");
        s.test("Returns the number of keys.", "save() = 0", "keys a b", "save() = 2", "remove(0) = 1", "save() = 1");
        s.test("Returns the number of keys.", Sentences.TWENTY_KEYS, "save() = 20");
    }

    private void restore() {
        s.in("Promise 31");
        String quote = "Restores what was saved; it stays saved.";
        s.test(quote, "keys cat dog", "save() = 2", "remove(1) = 1", "restore() = 2", "setBranch(0, 5) = 0",
            "setWeight(1, 5) = 1", "setLoad(50) = 100", "restore() = 2", "list 0 = cat=0,dog=1", "property(1, 1) = 1",
            "size(1) = 100", "remove(0) = 1", "remove(0) = 0", "restore() = 2", "list 0 = cat=0,dog=1");
        s.test(quote, "save() = 0", "keys a b", "setLoad(50) = 100", "restore() = 0", "size(0) = 0", "size(1) = 100",
            "list 0 = ", "best() = 0", "table(0)" + STATE, "trees(0) = 0", "restore() = 0");
        s.test(quote, "keys aa ab", "save() = 2", "remove(0) = 1", "selected() = 0", "trees(1) = 0", "restore() = 2",
            "selected() = 2", "trees(1) = 1", "list 1 = aa=0,ab=1", "list 3 = 15/1/0/ab,aa");
        s.test(quote, "keys a", "save() = 1", "type add:b=1;weight:a=9;load=60", "execute() = 3", "restore() = 1",
            "list 0 = a=0", "property(0, 1) = 1", "size(1) = 100");
        s.test(quote, "keys a b", "save() = 2", "type b", "find(2) = 1", "remove(0) = 1", "restore() = 2",
            "find(2) = 1", "find(1) = 1", "find(3) = 1");
        s.test(quote, "keys a b", "save() = 2", "remove(0) = 1", "type b", "find(2) = 0", "clear() = 1", "type c",
            "add(0) = 1", "restore() = 2", "type b", "find(2) = 1", "find(1) = 1", "find(3) = 1");
        s.test("Returns the number of keys.", "save() = 0", "keys a b", "restore() = 0", "keys a b c", "save() = 3",
            "remove(0) = 2", "restore() = 3");
        s.test("Returns the number of keys.", Sentences.TWENTY_KEYS, "save() = 20", "remove(0) = 19", "restore() = 20");
        String nothing = "Throws `IllegalStateException` if nothing was saved";
        s.test(nothing, "restore()" + STATE, "restore()" + STATE, "save() = 0", "restore() = 0");
        s.test(nothing, "keys a", "restore()" + STATE, "size(0) = 1", "save() = 1", "restore() = 1");
    }

    private void whatRestoreLeaves() {
        String quote = "The buffer and the error position stay as they are.";
        s.test(quote, "keys ab", "save() = 1", "type add:cd=1;foo", "execute()" + ARGUMENT, "type ab", "restore() = 1",
            "size(2) = 2", "find(0) = 0", "errorPosition() = 9");
        s.test(quote, "type foo", "execute()" + ARGUMENT, "save() = 0", "type load=60", "execute() = 1", "type xyz",
            "restore() = 0", "errorPosition() = -1", "size(2) = 3", "size(1) = 100", "clear() = 3", "restore() = 0",
            "size(2) = 0");
        s.test(quote, "type " + "a".repeat(60), "save() = 0", "clear() = 60", "restore() = 0", "size(2) = 0");
    }
}
