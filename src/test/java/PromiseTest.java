/** Each promise of the document by itself: ordinary inputs, the edges that it names, and wrong inputs. */
public final class PromiseTest {
    private static final Check CHECK = new Check("PromiseTest");
    private static final String WITHOUT_TABLE = "2,44,z,p,20,u,2r,8,k1";
    private static final int MIN = Integer.MIN_VALUE;
    private static final int MAX = Integer.MAX_VALUE;

    private PromiseTest() {
    }

    public static void main(String[] args) {
        newObject();
        append();
        clear();
        add();
        addAtTheLimit();
        remove();
        setBranch();
        setWeight();
        setLoad();
        execute();
        executeIsAllOrNothing();
        executionErrors();
        formErrors();
        errorPosition();
        property();
        character();
        difference();
        size();
        find();
        branch();
        examined();
        cost();
        worst();
        meanBits();
        best();
        trees();
        treePositions();
        selected();
        hash();
        table();
        slot();
        displacement();
        densityBits();
        listing();
        save();
        restore();
        withoutTable();
        atTheEdges();
        slotsAreRoundedUp();
        strategiesFollowChanges();
        eachCallFollowsChanges();
        CHECK.close();
    }

    /** Appends a text, four characters a call. */
    private static void type(TextSwitchCompiler x, String text) {
        for (int i = 0; i < text.length(); i += 4) {
            int packed = 0;
            for (int j = i; j < Math.min(i + 4, text.length()); j++) {
                packed = packed << 8 | text.charAt(j);
            }
            x.append(packed);
        }
    }

    private static void typeAnew(TextSwitchCompiler x, String text) {
        x.clear();
        type(x, text);
    }

    /** Makes an object with keys that have the branches 1, 2, 3 and so on. */
    private static TextSwitchCompiler with(String keys) {
        TextSwitchCompiler x = new TextSwitchCompiler();
        int branch = 0;
        for (String key : keys.split(",")) {
            branch = (branch + 1) % 10;
            type(x, key);
            x.add(branch);
        }
        return x;
    }

    /** Four keys whose order as texts is a, cat, cow, dog. */
    private static TextSwitchCompiler fourKeys() {
        return with("cat,dog,cow,a");
    }

    private static TextSwitchCompiler twentyKeys() {
        return with("k0,k1,k2,k3,k4,k5,k6,k7,k8,k9,kk0,kk1,kk2,kk3,kk4,kk5,kk6,kk7,kk8,kk9");
    }

    private static String listed(TextSwitchCompiler x, int strategy) {
        StringBuilder text = new StringBuilder();
        int length = x.listing(strategy, -1);
        for (int i = 0; i < length; i++) {
            text.append((char) x.listing(strategy, i));
        }
        return text.toString();
    }

    private static void holds(String what, TextSwitchCompiler x, String entries) {
        CHECK.same(what, listed(x, 0), entries);
    }

    private static void newObject() {
        TextSwitchCompiler x = new TextSwitchCompiler();
        CHECK.answers("1: size(0)", 0, () -> x.size(0));
        CHECK.answers("1: size(1)", 100, () -> x.size(1));
        CHECK.answers("1: size(2)", 0, () -> x.size(2));
        CHECK.answers("1: errorPosition()", -1, x::errorPosition);
        CHECK.index("1: property(0, 0)", () -> x.property(0, 0));
        CHECK.state("1: restore()", x::restore);
        for (int strategy = 0; strategy < 4; strategy++) {
            int s = strategy;
            CHECK.answers("1: find(" + s + ")", -1, () -> x.find(s));
            CHECK.answers("1: branch(" + s + ")", -1, () -> x.branch(s));
            CHECK.answers("1: examined(" + s + ")", 0, () -> x.examined(s));
            CHECK.answers("1: cost(" + s + ")", 0, () -> x.cost(s));
            CHECK.answers("1: worst(" + s + ")", 0, () -> x.worst(s));
            CHECK.same("1: meanBits(" + s + ")", Check.told(() -> x.meanBits(s)), "throws.ArithmeticException");
            CHECK.answers("1: trees(" + s + ")", 0, () -> x.trees(s));
        }
        CHECK.answers("1: best()", 0, x::best);
        CHECK.answers("1: selected()", 0, x::selected);
        CHECK.state("1: table(0)", () -> x.table(0));
        CHECK.state("1: listing(3, -1)", () -> x.listing(3, -1));
        CHECK.answers("1: listing(2, -1)", 0, () -> x.listing(2, -1));
        CHECK.index("1: listing(0, 0)", () -> x.listing(0, 0));
    }

    private static void append() {
        TextSwitchCompiler x = new TextSwitchCompiler();
        CHECK.answers("2: append(0)", 0, () -> x.append(0));
        CHECK.answers("2: abcd", 4, () -> x.append(0x61626364));
        CHECK.answers("2: zeros between are skipped", 6, () -> x.append(0x65000066));
        CHECK.answers("2: zeros in front are skipped", 7, () -> x.append(0x67));
        CHECK.answers("2: zeros behind are skipped", 8, () -> x.append(0x68000000));
        CHECK.answers("2: the order", 0, () -> x.add(0));
        holds("2: the order", x, "abcdefgh=0");
        CHECK.answers("2: 33 and 126", 2, () -> x.append(33 << 8 | 126));
        for (int sign : new int[] {1, 32, 127, 128, 160, 255}) {
            for (int shift = 0; shift < 32; shift += 8) {
                int packed = sign << shift;
                CHECK.argument("2: append(" + packed + ")", () -> x.append(packed));
            }
        }
        CHECK.argument("2: a right byte before a wrong one", () -> x.append(0x61626320));
        CHECK.argument("2: -1", () -> x.append(-1));
        CHECK.answers("2: nothing of it was appended", 2, () -> x.size(2));
        appendAtTheLimit(x);
    }

    private static void appendAtTheLimit(TextSwitchCompiler x) {
        typeAnew(x, "a".repeat(57));
        CHECK.state("2: 57 and 4 characters", () -> x.append(0x61616161));
        CHECK.answers("2: nothing of it was appended", 57, () -> x.size(2));
        CHECK.answers("2: 57 and 3 characters", 60, () -> x.append(0x61006161));
        CHECK.answers("2: no character at the limit", 60, () -> x.append(0));
        CHECK.state("2: one more character", () -> x.append(0x61));
        CHECK.argument("2: a wrong character at the limit", () -> x.append(0x20));
        CHECK.argument("2: right and wrong ones at the limit", () -> x.append(0x61616120));
        CHECK.answers("2: the buffer stays", 60, x::clear);
    }

    private static void clear() {
        TextSwitchCompiler x = fourKeys();
        CHECK.answers("3: an empty buffer", 0, x::clear);
        type(x, "abcde");
        CHECK.answers("3: five characters", 5, x::clear);
        CHECK.answers("3: it is empty", 0, () -> x.size(2));
        CHECK.answers("3: again", 0, x::clear);
        CHECK.answers("3: the keys stay", 4, () -> x.size(0));
    }

    private static void add() {
        TextSwitchCompiler x = new TextSwitchCompiler();
        CHECK.argument("4: an empty text", () -> x.add(0));
        type(x, "z09az90a");
        CHECK.argument("4: branch -1", () -> x.add(-1));
        CHECK.argument("4: branch 10", () -> x.add(10));
        CHECK.argument("4: branch MIN", () -> x.add(MIN));
        CHECK.answers("4: the buffer stays", 8, () -> x.size(2));
        CHECK.answers("4: eight characters, branch 9", 0, () -> x.add(9));
        CHECK.answers("4: the buffer is empty", 0, () -> x.size(2));
        CHECK.answers("4: the branch", 9, () -> x.property(0, 0));
        CHECK.answers("4: the weight", 1, () -> x.property(0, 1));
        type(x, "a");
        CHECK.answers("4: one character, branch 0", 1, () -> x.add(0));
        type(x, "a");
        CHECK.state("4: a key that exists", () -> x.add(1));
        CHECK.argument("4: a key that exists, and a wrong branch", () -> x.add(10));
        CHECK.answers("4: the buffer stays", 1, () -> x.size(2));
        type(x, "b");
        CHECK.answers("4: a longer one", 2, () -> x.add(1));
        for (String text : new String[] {"abcdefghi", "A", "aZ", "a-b", "a/", "a:", "`", "{", "=", "~", "!a"}) {
            typeAnew(x, text);
            CHECK.argument("4: " + text, () -> x.add(1));
            CHECK.answers("4: the buffer stays", text.length(), () -> x.size(2));
        }
        holds("4: the keys", x, "z09az90a=9,a=0,ab=1");
        CHECK.answers("4: the error position stays", -1, x::errorPosition);
    }

    private static void addAtTheLimit() {
        TextSwitchCompiler x = twentyKeys();
        CHECK.answers("4: twenty keys", 20, () -> x.size(0));
        type(x, "new");
        CHECK.state("4: a 21st key", () -> x.add(1));
        CHECK.argument("4: a 21st key with a wrong branch", () -> x.add(-1));
        CHECK.answers("4: the buffer stays", 3, () -> x.size(2));
        x.remove(0);
        CHECK.answers("4: room again", 19, () -> x.add(1));
    }

    private static void remove() {
        TextSwitchCompiler x = fourKeys();
        x.setWeight(1, 7);
        CHECK.index("5: -1", () -> x.remove(-1));
        CHECK.index("5: 4 of 4", () -> x.remove(4));
        CHECK.index("5: MIN", () -> x.remove(MIN));
        CHECK.index("5: MAX", () -> x.remove(MAX));
        CHECK.answers("5: the first", 3, () -> x.remove(0));
        holds("5: the later ones move up", x, "dog=2,cow=3,a=4");
        CHECK.answers("5: with their weights", 7, () -> x.property(0, 1));
        CHECK.answers("5: and their lengths", 1, () -> x.property(2, 2));
        CHECK.answers("5: the one in the middle", 2, () -> x.remove(1));
        holds("5: the others stay", x, "dog=2,a=4");
        CHECK.answers("5: the last", 1, () -> x.remove(1));
        CHECK.index("5: it is gone", () -> x.remove(1));
        CHECK.answers("5: the only one", 0, () -> x.remove(0));
        CHECK.index("5: no key", () -> x.remove(0));
        type(x, "cat");
        CHECK.answers("5: a removed key can be added", 0, () -> x.add(1));
    }

    private static void setBranch() {
        TextSwitchCompiler x = fourKeys();
        CHECK.answers("6: 9", 2, () -> x.setBranch(1, 9));
        CHECK.answers("6: 0", 9, () -> x.setBranch(1, 0));
        CHECK.argument("6: 10", () -> x.setBranch(1, 10));
        CHECK.argument("6: -1", () -> x.setBranch(1, -1));
        CHECK.index("6: key 4", () -> x.setBranch(4, 1));
        CHECK.index("6: key -1", () -> x.setBranch(-1, 1));
        CHECK.index("6: no key and a wrong branch", () -> x.setBranch(4, 10));
        holds("6: the others stay", x, "cat=1,dog=0,cow=3,a=4");
        type(x, "dog");
        CHECK.answers("6: a run finds it", 0, () -> x.branch(2));
    }

    private static void setWeight() {
        TextSwitchCompiler x = fourKeys();
        CHECK.answers("7: 99", 1, () -> x.setWeight(2, 99));
        CHECK.answers("7: 1", 99, () -> x.setWeight(2, 1));
        CHECK.answers("7: 50", 1, () -> x.setWeight(2, 50));
        CHECK.argument("7: 0", () -> x.setWeight(2, 0));
        CHECK.argument("7: 100", () -> x.setWeight(2, 100));
        CHECK.argument("7: MIN", () -> x.setWeight(2, MIN));
        CHECK.index("7: key 4", () -> x.setWeight(4, 1));
        CHECK.index("7: key -1", () -> x.setWeight(-1, 1));
        CHECK.index("7: no key and a wrong weight", () -> x.setWeight(-1, 0));
        CHECK.answers("7: it is kept", 50, () -> x.property(2, 1));
        CHECK.answers("7: the others stay", 1, () -> x.property(1, 1));
    }

    private static void setLoad() {
        TextSwitchCompiler x = fourKeys();
        CHECK.answers("8: 50", 100, () -> x.setLoad(50));
        CHECK.answers("8: 75", 50, () -> x.setLoad(75));
        CHECK.answers("8: 100", 75, () -> x.setLoad(100));
        for (int load : new int[] {49, 101, 0, -50, MIN, MAX}) {
            CHECK.argument("8: " + load, () -> x.setLoad(load));
        }
        CHECK.answers("8: it stays", 100, () -> x.size(1));
    }

    private static void execute() {
        TextSwitchCompiler x = new TextSwitchCompiler();
        type(x, "add:b=2;add:abcdefgh=0;load=50;weight:b=99;add:0=9");
        CHECK.answers("9: five commands", 5, x::execute);
        CHECK.answers("9: the buffer is empty", 0, () -> x.size(2));
        holds("9: the keys", x, "b=2,abcdefgh=0,0=9");
        CHECK.answers("9: the load", 50, () -> x.size(1));
        CHECK.answers("9: the weight that was set", 99, () -> x.property(0, 1));
        CHECK.answers("9: the weight of a new key", 1, () -> x.property(1, 1));
        type(x, "del:b;add:b=3;load=100;weight:0=10;weight:0=9");
        CHECK.answers("9: five more", 5, x::execute);
        holds("9: the numbers decrease", x, "abcdefgh=0,0=9,b=3");
        CHECK.answers("9: a key added anew has weight 1", 1, () -> x.property(2, 1));
        CHECK.answers("9: the later weight holds", 9, () -> x.property(1, 1));
        CHECK.answers("9: load 100", 100, () -> x.size(1));
        type(x, "del:b;del:0;del:abcdefgh");
        CHECK.answers("9: all are removed", 3, x::execute);
        CHECK.answers("9: no key", 0, () -> x.size(0));
        type(x, "add:a=1;add:b=1;add:c=1;add:d=1;add:e=1;add:f=1;add:g=1");
        CHECK.answers("9: seven", 7, x::execute);
        type(x, "del:a;del:b;del:c;del:d;del:e;del:f;del:g;load=99;load=98");
        CHECK.answers("9: nine", 9, x::execute);
        type(x, "add:add=1;add:load=2;weight:load=7;del:add");
        CHECK.answers("9: keys like words", 4, x::execute);
        holds("9: keys like words", x, "load=2");
    }

    private static void executeIsAllOrNothing() {
        TextSwitchCompiler x = fourKeys();
        type(x, "load=50;del:cat;weight:dog=9;add:new=1;add:dog=1");
        CHECK.state("9: the last one cannot be executed", x::execute);
        CHECK.answers("9: the buffer is empty", 0, () -> x.size(2));
        holds("9: no command was executed", x, "cat=1,dog=2,cow=3,a=4");
        CHECK.answers("9: the load stays", 100, () -> x.size(1));
        CHECK.answers("9: the weight stays", 1, () -> x.property(1, 1));
        type(x, "load=50;del:cat;del:cow;");
        CHECK.argument("9: a form error at the end", x::execute);
        CHECK.answers("9: the buffer is empty", 0, () -> x.size(2));
        holds("9: no command was executed", x, "cat=1,dog=2,cow=3,a=4");
        CHECK.answers("9: the load stays", 100, () -> x.size(1));
        type(x, "del:zebra;add:");
        CHECK.argument("9: a form error behind an execution error", x::execute);
        CHECK.answers("9: its position", 14, x::errorPosition);
    }

    private static void executesBadly(TextSwitchCompiler x, String text, int position) {
        typeAnew(x, text);
        CHECK.state("9: " + text, x::execute);
        CHECK.answers("10: " + text, position, x::errorPosition);
    }

    private static void executionErrors() {
        TextSwitchCompiler x = fourKeys();
        executesBadly(x, "add:cat=1", 0);
        executesBadly(x, "del:ca", 0);
        executesBadly(x, "del:cats", 0);
        executesBadly(x, "weight:cup=5", 0);
        executesBadly(x, "load=50;add:b=1;add:b=1;del:zz", 16);
        executesBadly(x, "del:cat;del:dog;del:cat", 16);
        executesBadly(x, "del:cat;weight:cat=5", 8);
        TextSwitchCompiler full = twentyKeys();
        executesBadly(full, "load=60;add:new=1", 8);
        executesBadly(full, "del:k0;add:k0=1;add:new=1", 16);
        type(full, "del:k0;add:new=1");
        CHECK.answers("9: room for one", 2, full::execute);
        CHECK.answers("10: no error", -1, full::errorPosition);
        executesBadly(full, "add:k1=1", 0);
    }

    private static void misformed(String text, int position) {
        TextSwitchCompiler x = with("ab");
        type(x, text);
        CHECK.argument("9: " + text, x::execute);
        CHECK.answers("10: " + text, position, x::errorPosition);
        CHECK.answers("9: empty after " + text, 0, () -> x.size(2));
        holds("9: the keys after " + text, x, "ab=1");
    }

    private static void formErrors() {
        misformed("", 0);
        misformed(";", 0);
        misformed(":", 0);
        misformed("1", 0);
        misformed("add", 3);
        misformed("add;", 3);
        misformed("ad:a=1", 0);
        misformed("adds:a=1", 0);
        misformed("Add:a=1", 0);
        misformed("aDd:a=1", 0);
        misformed("adD:a=1", 0);
        misformed("add1:a=1", 3);
        misformed("addD:a=1", 3);
        misformed("add=a=1", 3);
        misformed("weight", 6);
        misformed("weigh", 0);
        misformed("weight=5", 6);
        misformed("loadload=50", 0);
        misformed("loa", 0);
        misformed("load:50", 4);
        misformed("del=ab", 3);
        misformed("d", 0);
        misformed("zebra", 0);
        keyErrors();
        digitErrors();
        numberErrors();
        sequenceErrors();
    }

    private static void keyErrors() {
        misformed("add:", 4);
        misformed("add:=1", 4);
        misformed("add:;", 4);
        misformed("add::a=1", 4);
        misformed("add:A=1", 4);
        misformed("add:aB=1", 5);
        misformed("add:a-b=1", 5);
        misformed("add:abcdefgh", 12);
        misformed("add:abcdefghi=1", 12);
        misformed("add:012345678=1", 12);
        misformed("add:xy;", 6);
        misformed("add:xy:1", 6);
        misformed("del:", 4);
        misformed("del:=", 4);
        misformed("del:ab=1", 6);
        misformed("del:abcdefghi", 12);
        misformed("weight:", 7);
        misformed("weight:ab", 9);
        misformed("weight:ab;", 9);
        misformed("weight:abcdefghi=1", 15);
    }

    private static void digitErrors() {
        misformed("add:xy=", 7);
        misformed("add:xy=x", 7);
        misformed("add:xy=;", 7);
        misformed("add:xy=-1", 7);
        misformed("add:xy=/", 7);
        misformed("add:xy=:", 7);
        misformed("add:xy=12", 8);
        misformed("add:xy=1a", 8);
        misformed("add:xy=1=", 8);
    }

    private static void numberErrors() {
        misformed("weight:ab=", 10);
        misformed("weight:ab=0", 10);
        misformed("weight:ab=01", 10);
        misformed("weight:ab=007", 10);
        misformed("weight:ab=100", 10);
        misformed("weight:ab=1000", 10);
        misformed("weight:ab=999", 10);
        misformed("weight:ab=100x", 10);
        misformed("weight:ab=x", 10);
        misformed("weight:ab=-5", 10);
        misformed("weight:ab=5x", 11);
        misformed("weight:ab=99x", 12);
        misformed("load=", 5);
        misformed("load=;", 5);
        misformed("load=0", 5);
        misformed("load=5", 5);
        misformed("load=49", 5);
        misformed("load=101", 5);
        misformed("load=999", 5);
        misformed("load=050", 5);
        misformed("load=5x", 5);
        misformed("load=1010", 5);
        misformed("load=5000", 5);
        misformed("load=1000", 8);
        misformed("load=100x", 8);
        misformed("load=50x", 7);
        misformed("load=50=", 7);
    }

    private static void sequenceErrors() {
        misformed("add:xy=1;", 9);
        misformed("add:xy=1;;", 9);
        misformed("add:xy=1;;add:z=1", 9);
        misformed("add:xy=1,del:ab", 8);
        misformed("add:xy=1;Del:ab", 9);
        misformed("add:xy=1;load=49;foo", 14);
        misformed("add:xy=1;foo;load=49", 9);
        misformed("del:ab;del:ab;weight:ab=5;del:", 30);
        misformed("load=50;load=60;load=70;load=80;load=90;load=100;load=49;a:b", 54);
    }

    private static void errorPosition() {
        TextSwitchCompiler x = fourKeys();
        CHECK.answers("10: execute was not called", -1, x::errorPosition);
        type(x, "load=50;foo");
        CHECK.argument("10: a form error", x::execute);
        CHECK.answers("10: a form error", 8, x::errorPosition);
        type(x, "abc");
        CHECK.state("10: restore", x::restore);
        x.save();
        x.restore();
        x.clear();
        CHECK.argument("10: add", () -> x.add(1));
        CHECK.answers("10: nothing else changes it", 8, x::errorPosition);
        type(x, "load=60");
        CHECK.answers("10: no error", 1, x::execute);
        CHECK.answers("10: no error", -1, x::errorPosition);
    }

    private static void property() {
        TextSwitchCompiler x = with("cat,cab,car,bat,dog,cats,ca,cut,bad");
        x.setWeight(3, 42);
        CHECK.answers("11: branch", 4, () -> x.property(3, 0));
        CHECK.answers("11: weight", 42, () -> x.property(3, 1));
        CHECK.answers("11: length", 3, () -> x.property(3, 2));
        CHECK.answers("11: length 4", 4, () -> x.property(5, 2));
        int[] less = {5, 3, 4, 1, 8, 6, 2, 7, 0};
        int[] near = {4, 2, 2, 2, 0, 0, 0, 1, 1};
        for (int key = 0; key < 9; key++) {
            int k = key;
            CHECK.answers("11: less than " + k, less[k], () -> x.property(k, 3));
            CHECK.answers("11: neighbors of " + k, near[k], () -> x.property(k, 4));
        }
        TextSwitchCompiler letters = with("a,b");
        CHECK.answers("11: a neighbor", 1, () -> letters.property(0, 4));
        letters.remove(1);
        CHECK.answers("11: a removed neighbor", 0, () -> letters.property(0, 4));
        CHECK.argument("11: what -1", () -> x.property(0, -1));
        CHECK.argument("11: what 5", () -> x.property(0, 5));
        CHECK.index("11: key -1", () -> x.property(-1, 0));
        CHECK.index("11: key 9", () -> x.property(9, 0));
        CHECK.index("11: no key and a wrong what", () -> x.property(9, 5));
    }

    private static void character() {
        TextSwitchCompiler x = with("a0z,abcdefgh");
        CHECK.answers("12: a", 'a', () -> x.character(0, 0));
        CHECK.answers("12: 0", '0', () -> x.character(0, 1));
        CHECK.answers("12: z", 'z', () -> x.character(0, 2));
        CHECK.answers("12: the eighth", 'h', () -> x.character(1, 7));
        CHECK.index("12: behind the end", () -> x.character(0, 3));
        CHECK.index("12: behind the end of eight", () -> x.character(1, 8));
        CHECK.index("12: position -1", () -> x.character(1, -1));
        CHECK.index("12: position MAX", () -> x.character(1, MAX));
        CHECK.index("12: key 2", () -> x.character(2, 0));
        CHECK.index("12: key -1", () -> x.character(-1, 0));
    }

    private static void difference() {
        TextSwitchCompiler x = with("cat,cow,cats,dog,abcdefgh,abcdefgi");
        CHECK.answers("13: cat, cow", 1, () -> x.difference(0, 1));
        CHECK.answers("13: cow, cat", 1, () -> x.difference(1, 0));
        CHECK.answers("13: cat, cats", 3, () -> x.difference(0, 2));
        CHECK.answers("13: cats, cat", 3, () -> x.difference(2, 0));
        CHECK.answers("13: cat, dog", 0, () -> x.difference(0, 3));
        CHECK.answers("13: at the eighth", 7, () -> x.difference(4, 5));
        CHECK.argument("13: both the same", () -> x.difference(3, 3));
        CHECK.index("13: one is none", () -> x.difference(6, 0));
        CHECK.index("13: other is none", () -> x.difference(0, 6));
        CHECK.index("13: -1", () -> x.difference(-1, 0));
        CHECK.index("13: both the same and none", () -> x.difference(-1, -1));
    }

    private static void size() {
        TextSwitchCompiler x = fourKeys();
        x.setLoad(66);
        type(x, "hello");
        CHECK.answers("14: keys", 4, () -> x.size(0));
        CHECK.answers("14: load", 66, () -> x.size(1));
        CHECK.answers("14: buffer", 5, () -> x.size(2));
        CHECK.argument("14: 3", () -> x.size(3));
        CHECK.argument("14: -1", () -> x.size(-1));
    }

    private static void runs(TextSwitchCompiler x, String text, int key, int... examined) {
        typeAnew(x, text);
        for (int strategy = 0; strategy < examined.length; strategy++) {
            int s = strategy;
            int branch = key < 0 ? -1 : x.property(key, 0);
            CHECK.answers("15: find(" + s + ") of " + text, key, () -> x.find(s));
            CHECK.answers("16: branch(" + s + ") of " + text, branch, () -> x.branch(s));
            CHECK.answers("17: examined(" + s + ") of " + text, examined[s], () -> x.examined(s));
            CHECK.answers("15: the buffer stays", text.length(), () -> x.size(2));
        }
    }

    private static void find() {
        TextSwitchCompiler x = fourKeys();
        runs(x, "cat", 0, 3, 3, 3, 4);
        runs(x, "dog", 1, 4, 5, 3, 4);
        runs(x, "cow", 2, 6, 5, 3, 4);
        runs(x, "a", 3, 1, 2, 1, 1);
        runs(x, "cab", -1, 6, 4, 1);
        runs(x, "dot", -1, 5, 5, 2);
        runs(x, "cot", -1, 6, 5, 3);
        runs(x, "b", -1, 1, 2, 1, 1);
        runs(x, "ca", -1, 0, 3, 0, 0);
        runs(x, "cats", -1, 0, 5, 0, 1);
        runs(x, "", -1, 0, 0, 0, 0);
        runs(x, "A", -1, 1, 2, 1, 1);
        runs(x, "~", -1, 1, 3, 1, 1);
        runs(x, "c".repeat(60), -1, 0, 4, 0, 1);
        wrongStrategies("15", x::find);
    }

    /** A call that takes a strategy. */
    private interface Strategic {
        long run(int strategy);
    }

    private static void wrongStrategies(String promise, Strategic call) {
        for (int strategy : new int[] {-1, 4, MIN, MAX}) {
            CHECK.argument(promise + ": strategy " + strategy, () -> call.run(strategy));
        }
    }

    private static void branch() {
        TextSwitchCompiler x = fourKeys();
        x.setBranch(2, 0);
        runs(x, "cow", 2, 6, 5, 3, 4);
        wrongStrategies("16", x::branch);
        wrongStrategies("16", new TextSwitchCompiler()::branch);
    }

    private static void examined() {
        TextSwitchCompiler x = with("aa,ab,ba,bb");
        runs(x, "ab", 1, 4, 2, 2, 4);
        runs(x, "bb", 3, 6, 5, 2, 4);
        runs(x, "cb", -1, 4, 3, 1);
        runs(x, "ac", -1, 6, 3, 2);
        wrongStrategies("17", x::examined);
        TextSwitchCompiler one = with("abcdefgh");
        runs(one, "abcdefgh", 0, 8, 8, 8, 8);
        runs(one, "abcdefgi", -1, 8, 8, 8, 8);
        runs(one, "bbcdefgh", -1, 1, 1, 1, 1);
        runs(one, "abcdefghi", -1, 0, 8, 0, 0);
        runs(one, "abcdefg", -1, 0, 7, 0, 0);
    }

    private static void cost() {
        TextSwitchCompiler x = fourKeys();
        int[] costs = {14, 15, 10, 13};
        int[] weighted = {14 + 4 * 6, 15 + 4 * 5, 10 + 4 * 3, 13 + 4 * 4};
        for (int strategy = 0; strategy < 4; strategy++) {
            int s = strategy;
            CHECK.answers("18: cost(" + s + ")", costs[s], () -> x.cost(s));
            x.setWeight(2, 5);
            CHECK.answers("18: weighted cost(" + s + ")", weighted[s], () -> x.cost(s));
            x.setWeight(2, 1);
        }
        wrongStrategies("18", x::cost);
        wrongStrategies("18", new TextSwitchCompiler()::cost);
    }

    private static void worst() {
        TextSwitchCompiler x = fourKeys();
        x.setWeight(3, 99);
        int[] worsts = {6, 5, 3, 4};
        for (int strategy = 0; strategy < 4; strategy++) {
            int s = strategy;
            CHECK.answers("19: worst(" + s + ")", worsts[s], () -> x.worst(s));
        }
        wrongStrategies("19", x::worst);
        wrongStrategies("19", new TextSwitchCompiler()::worst);
    }

    private static void meanBits() {
        TextSwitchCompiler x = fourKeys();
        CHECK.answers("20: 14 / 4", Double.doubleToLongBits(3.5), () -> x.meanBits(0));
        CHECK.answers("20: 15 / 4", 0x400E000000000000L, () -> x.meanBits(1));
        CHECK.answers("20: 10 / 4", Double.doubleToLongBits(2.5), () -> x.meanBits(2));
        CHECK.answers("20: 13 / 4", Double.doubleToLongBits(3.25), () -> x.meanBits(3));
        x.setWeight(0, 4);
        CHECK.answers("20: 23 / 7", Double.doubleToLongBits(23.0 / 7.0), () -> x.meanBits(0));
        x.setWeight(1, 99);
        x.setWeight(2, 98);
        CHECK.answers("20: 997 / 202", Double.doubleToLongBits(997.0 / 202.0), () -> x.meanBits(0));
        wrongStrategies("20", x::meanBits);
        TextSwitchCompiler none = new TextSwitchCompiler();
        wrongStrategies("20", none::meanBits);
        CHECK.answers("20: one letter", Double.doubleToLongBits(1.0), () -> with("a").meanBits(3));
    }

    private static void best() {
        CHECK.answers("21: four keys", 2, fourKeys()::best);
        CHECK.answers("21: one key, all the same", 0, with("abc")::best);
        CHECK.answers("21: lengths differ, 0 and 2 the same", 0, with("a,ab,abc")::best);
        CHECK.answers("21: no table", 2, with(WITHOUT_TABLE)::best);
    }

    private static void checkTrees(TextSwitchCompiler x, int... sizes) {
        for (int what = 0; what < 4; what++) {
            int w = what;
            CHECK.answers("22: trees(" + w + ")", sizes[w], () -> x.trees(w));
        }
    }

    private static void trees() {
        checkTrees(fourKeys(), 2, 1, 4, 1);
        checkTrees(with("a"), 1, 0, 1, 0);
        checkTrees(with("aa,ab,ba,bb"), 1, 3, 4, 2);
        checkTrees(with("a,aa,aaa,aaaa,aaaaa,aaaaaa,aaaaaaa,aaaaaaaa"), 8, 0, 8, 0);
        checkTrees(with("aaa,aab,aba,abb,baa,bab,bba,bbb,xx,yy"), 2, 8, 10, 3);
        checkTrees(twentyKeys(), 2, 2, 20, 1);
        CHECK.argument("22: 4", () -> fourKeys().trees(4));
        CHECK.argument("22: -1", () -> fourKeys().trees(-1));
        CHECK.argument("22: 4 without keys", () -> new TextSwitchCompiler().trees(4));
    }

    private static void checkListing(String what, TextSwitchCompiler x, int strategy, String due) {
        CHECK.same(what, listed(x, strategy), due);
        CHECK.answers(what + ": length", due.length(), () -> x.listing(strategy, -1));
        CHECK.index(what + ": behind the end", () -> x.listing(strategy, due.length()));
        CHECK.index(what + ": -2", () -> x.listing(strategy, -2));
    }

    private static void treePositions() {
        checkListing("22: the least greatest child", with("aaa,aab,abc"), 2, "3:2{a:aaa=1,b:aab=2,c:abc=3}");
        checkListing("22: the most children of equal ones", with("ax,ay,bx,bz"), 2,
            "2:1{x:0{a:ax=1,b:bx=3},y:ay=2,z:bz=4}");
        checkListing("22: the least greatest child before the most children", with("xa,ya,xb,zb,xc,wc"), 2,
            "2:1{a:0{x:xa=1,y:ya=2},b:0{x:xb=3,z:zb=4},c:0{w:wc=6,x:xc=5}}");
        checkListing("22: the lowest of equal ones", with("aab,abb,bac"), 2, "3:0{a:1{a:aab=1,b:abb=2},b:bac=3}");
        checkListing("22: another position in each child", with("aax,bax,ayc,azd"), 2,
            "3:1{a:0{a:aax=1,b:bax=2},y:ayc=3,z:azd=4}");
    }

    private static void selected() {
        CHECK.answers("23: four keys", 4, fourKeys()::selected);
        CHECK.answers("23: lengths differ", 0, with("a,ab,abc")::selected);
        CHECK.answers("23: one key", 0, with("abc")::selected);
        CHECK.answers("23: the last position", 128, with("abcdefgh,abcdefgi")::selected);
        CHECK.answers("23: the lowest of one", 1, with("ab,ba")::selected);
        CHECK.answers("23: least as a sequence, not as a number", 9, with("aaaa,aabb,abac,bbba")::selected);
        CHECK.answers("23: for all lengths", 5, with("ab,bb,aba,abb,a")::selected);
        CHECK.answers("23: all positions", 255,
            with("aaaaaaaa,baaaaaaa,abaaaaaa,aabaaaaa,aaabaaaa,aaaabaaa,aaaaabaa,aaaaaaba,aaaaaaab")::selected);
    }

    private static void checkHashes(TextSwitchCompiler x, String text, int... hashes) {
        typeAnew(x, text);
        int[] seeds = {0, 1, -5, MAX};
        for (int i = 0; i < 4; i++) {
            int seed = seeds[i];
            CHECK.answers("24: hash(" + seed + ") of " + text, hashes[i], () -> x.hash(seed));
        }
        CHECK.answers("24: the buffer stays", text.length(), () -> x.size(2));
    }

    private static void hash() {
        TextSwitchCompiler x = fourKeys();
        checkHashes(x, "", 0, -1842022672, 909938314, -1447099495);
        checkHashes(x, "cat", 317173259, -1523709995, 593188999, 1024883308);
        checkHashes(x, "a", 739900894, -1101859829, 170136396, 2107475446);
        checkHashes(x, "cats", 1057115339, -785219068, -147766457, 1765176493);
        checkHashes(x, "zz", 1479801789, -361043645, -570125299, 1366951959);
        TextSwitchCompiler none = new TextSwitchCompiler();
        type(none, "ab");
        CHECK.answers("24: no selected position", 1479801789, () -> none.hash(0));
        CHECK.answers("24: no selected position, seed 7", -1152973324, () -> none.hash(7));
    }

    private static void checkTable(TextSwitchCompiler x, int... sizes) {
        for (int what = 0; what < 5; what++) {
            int w = what;
            CHECK.answers("25: table(" + w + ")", sizes[w], () -> x.table(w));
        }
    }

    private static void table() {
        TextSwitchCompiler x = fourKeys();
        checkTable(x, 4, 2, 3, 1, 3);
        x.setLoad(70);
        checkTable(x, 6, 2, 0, 16, 2);
        x.setLoad(50);
        checkTable(x, 8, 2, 3, 0, 3);
        checkTable(twentyKeys(), 20, 7, 0, 66, 6);
        checkTable(with("a"), 1, 1, 0, 0, 1);
        CHECK.argument("25: 5", () -> x.table(5));
        CHECK.argument("25: -1", () -> x.table(-1));
        CHECK.argument("25: 5 without keys", () -> new TextSwitchCompiler().table(5));
        CHECK.state("25: 4 without keys", () -> new TextSwitchCompiler().table(4));
    }

    private static void slot() {
        TextSwitchCompiler x = fourKeys();
        x.setLoad(70);
        int[] due = {-1, 3, 1, 2, -1, 0};
        for (int i = 0; i < 6; i++) {
            int s = i;
            CHECK.answers("26: slot(" + s + ")", due[s], () -> x.slot(s));
        }
        CHECK.index("26: 6", () -> x.slot(6));
        CHECK.index("26: -1", () -> x.slot(-1));
        CHECK.index("26: MIN", () -> x.slot(MIN));
        CHECK.state("26: without keys", () -> new TextSwitchCompiler().slot(0));
        CHECK.state("26: without keys, no such slot", () -> new TextSwitchCompiler().slot(-1));
    }

    private static void displacement() {
        TextSwitchCompiler x = twentyKeys();
        int[] due = {1, 66, 0, 19, 14, 1, 0};
        for (int i = 0; i < 7; i++) {
            int b = i;
            CHECK.answers("27: displacement(" + b + ")", due[b], () -> x.displacement(b));
        }
        CHECK.index("27: 7", () -> x.displacement(7));
        CHECK.index("27: -1", () -> x.displacement(-1));
        CHECK.state("27: without keys", () -> new TextSwitchCompiler().displacement(0));
        CHECK.state("27: without keys, no such bucket", () -> new TextSwitchCompiler().displacement(-1));
    }

    private static void densityBits() {
        TextSwitchCompiler x = fourKeys();
        CHECK.answers("28: 4 / 4", 0x3F800000, x::densityBits);
        x.setLoad(70);
        CHECK.answers("28: 4 / 6", Float.floatToIntBits(4.0f / 6.0f), x::densityBits);
        x.setLoad(50);
        CHECK.answers("28: 4 / 8", 0x3F000000, x::densityBits);
        CHECK.state("28: without keys", new TextSwitchCompiler()::densityBits);
    }

    private static void listing() {
        TextSwitchCompiler x = fourKeys();
        checkListing("29: 0", x, 0, "cat=1,dog=2,cow=3,a=4");
        checkListing("29: 1", x, 1, "a=4,cat=1,cow=3,dog=2");
        checkListing("29: 2", x, 2, "1:a=4;3:2{g:dog=2,t:cat=1,w:cow=3}");
        checkListing("29: 3", x, 3, "3/2/1,0/a,cow,cat,dog");
        x.setLoad(70);
        checkListing("29: 3, load 70", x, 3, "0/2/0,16/-,a,dog,cow,-,cat");
        x.setLoad(50);
        checkListing("29: 3, load 50", x, 3, "3/2/0,0/a,-,cat,dog,cow,-,-,-");
        checkListing("29: two positions", with("aaaa,aabb,abac,bbba"), 3, "0/03/0,0/abac,aaaa,bbba,aabb");
        checkListing("29: no position", with("a"), 3, "0//0/a");
        checkListing("29: twenty keys", twentyKeys(), 3, "0/12/1,66,0,19,14,1,0/"
            + "k9,kk9,k2,kk1,kk8,k4,k6,kk4,kk3,k0,kk7,k1,kk5,kk0,k3,kk6,k5,kk2,k7,k8");
        checkListing("29: prefixes come first, digits before letters", with("ab,a,b,a0,abc"), 1,
            "a=2,a0=4,ab=1,abc=5,b=3");
        checkListing("29: 0 without keys", new TextSwitchCompiler(), 0, "");
        checkListing("29: 1 without keys", new TextSwitchCompiler(), 1, "");
        checkListing("29: 2 without keys", new TextSwitchCompiler(), 2, "");
        CHECK.argument("29: strategy 4", () -> x.listing(4, 0));
        CHECK.argument("29: strategy -1", () -> x.listing(-1, -5));
        CHECK.state("29: 3 without keys, no such index", () -> new TextSwitchCompiler().listing(3, -5));
        CHECK.index("29: MIN", () -> x.listing(3, MIN));
        CHECK.index("29: MAX", () -> x.listing(3, MAX));
    }

    private static void save() {
        TextSwitchCompiler x = fourKeys();
        CHECK.answers("30: four keys", 4, x::save);
        x.remove(0);
        CHECK.answers("30: three keys", 3, x::save);
        x.remove(0);
        x.restore();
        holds("30: the later ones replace the first", x, "dog=2,cow=3,a=4");
        TextSwitchCompiler none = new TextSwitchCompiler();
        CHECK.answers("30: no keys", 0, none::save);
        type(none, "a");
        none.add(1);
        CHECK.answers("31: no keys", 0, none::restore);
        CHECK.answers("31: no keys", 0, () -> none.size(0));
    }

    private static void restore() {
        TextSwitchCompiler x = fourKeys();
        CHECK.state("31: nothing was saved", x::restore);
        holds("31: the keys stay", x, "cat=1,dog=2,cow=3,a=4");
        x.setLoad(60);
        x.setWeight(1, 7);
        x.save();
        x.setLoad(90);
        x.setWeight(1, 8);
        x.setBranch(0, 9);
        x.remove(2);
        type(x, "bird");
        x.add(5);
        type(x, "foo");
        CHECK.argument("31: a form error", x::execute);
        type(x, "text");
        for (int turn = 0; turn < 2; turn++) {
            CHECK.answers("31: four keys", 4, x::restore);
            holds("31: the keys", x, "cat=1,dog=2,cow=3,a=4");
            CHECK.answers("31: the weight", 7, () -> x.property(1, 1));
            CHECK.answers("31: the load", 60, () -> x.size(1));
            CHECK.answers("31: the buffer stays", 4, () -> x.size(2));
            CHECK.answers("31: the error position stays", 0, x::errorPosition);
            x.setBranch(0, 3);
            x.setLoad(70);
            x.remove(3);
        }
    }

    /** The last seed, displacements and depths that the document still allows, and the first ones beyond. */
    private static void atTheEdges() {
        checkListing("29: seed 297", with("k,6,w,5,a,l,g,s,m,t,j,7,1,b,8,i"), 3,
            "297/0/0,7,1,0,14,1/8,b,5,t,m,1,s,7,g,i,j,k,w,l,a,6");
        CHECK.state("25: seed 300 is not tried",
            () -> with("k,3,7k,z,g,y,8,s,t,l0,z3,df,9n,2s,rp,a0").table(2));
        checkListing("29: seed 261", with("d,q,4,3,p,0,v,j,i,7,n,m,9,o,s,g"), 3,
            "261/0/0,0,1,8,4,2/g,d,m,j,p,n,4,9,s,7,3,o,q,i,v,0");
        checkListing("29: displacement 99", with("a,t7,5,n9,kx,r2,y,81,p,b4,6,fz"), 3,
            "0/0/7,1,99,0/p,y,b4,r2,kx,81,5,t7,fz,n9,6,a");
        checkListing("29: displacement 100 is not tried", with("zo,ee,f,dz,vp,as,dl,dr,w,x,c,0"), 3,
            "9/01/4,18,1,0/w,dl,dr,vp,dz,c,as,ee,zo,0,f,x");
        TextSwitchCompiler deep =
            with("aaaaaaaa,baaaaaaa,abaaaaaa,aabaaaaa,aaabaaaa,aaaabaaa,aaaaabaa,aaaaaaba,aaaaaaab");
        checkTrees(deep, 1, 8, 9, 8);
        checkListing("29: eight nodes on a way", deep, 2, "8:0{a:1{a:2{a:3{a:4{a:5{a:6{a:7{a:aaaaaaaa=1,b:aaaaaaab=9},"
            + "b:aaaaaaba=8},b:aaaaabaa=7},b:aaaabaaa=6},b:aaabaaaa=5},b:aabaaaaa=4},b:abaaaaaa=3},b:baaaaaaa=2}");
        runs(deep, "aaaaaaaa", 0, 8, 21, 8, 16);
        runs(deep, "aaaaaaac", -1, 44, 20, 8);
        runs(deep, "aaaaaaab", 8, 44, 13, 8, 16);
    }

    private static void tableSlots(String keys, int load, int slots) {
        TextSwitchCompiler x = with(keys);
        x.setLoad(load);
        CHECK.answers("25: slots of " + keys + " at load " + load, slots, () -> x.table(0));
    }

    private static void slotsAreRoundedUp() {
        tableSlots("a", 100, 1);
        tableSlots("a", 99, 2);
        tableSlots("a", 50, 2);
        tableSlots("a,b", 67, 3);
        tableSlots("a,b,c", 75, 4);
        tableSlots("a,b,c", 74, 5);
        checkListing("29: load 99", loaded("a", 99), 3, "0//0/a,-");
        checkListing("29: load 67", loaded("a,b", 67), 3, "0/0/0/b,a,-");
        checkListing("29: load 75", loaded("a,b,c", 75), 3, "48/0/1/a,-,c,b");
    }

    private static TextSwitchCompiler loaded(String keys, int load) {
        TextSwitchCompiler x = with(keys);
        x.setLoad(load);
        return x;
    }

    /** Each call by itself must see the keys as they are now, not only after another call has. */
    private static void eachCallFollowsChanges() {
        CHECK.answers("15: find at once", 1, () -> typed("cow,cat,a", "cat").find(2));
        CHECK.answers("16: branch at once", 2, () -> typed("cow,cat,a", "cat").branch(1));
        CHECK.answers("17: examined at once", 4, () -> typed("cow,cat,a", "cat").examined(3));
        CHECK.answers("18: cost at once", 7, () -> with("cow,cat,a").cost(2));
        CHECK.answers("19: worst at once", 4, () -> with("cow,cat,a").worst(3));
        CHECK.answers("20: meanBits at once", Double.doubleToLongBits(7.0 / 3.0), () -> with("cow,cat,a").meanBits(2));
        CHECK.answers("21: best at once", 2, () -> with("cow,cat,a").best());
        CHECK.answers("22: trees at once", 3, () -> with("cow,cat,a").trees(2));
        CHECK.answers("23: selected at once", 2, () -> with("cow,cat,a").selected());
        CHECK.answers("24: hash at once", 317173259, () -> typed("cat,dog,cow,a", "cat").hash(0));
        CHECK.answers("25: table at once", 4, () -> fourKeys().table(0));
        CHECK.answers("26: slot at once", 2, () -> fourKeys().slot(1));
        CHECK.answers("27: displacement at once", 1, () -> fourKeys().displacement(0));
        CHECK.answers("28: densityBits at once", 0x3F800000, () -> fourKeys().densityBits());
        CHECK.answers("29: listing at once", 'c', () -> with("cow,cat,a").listing(1, 4));
    }

    private static TextSwitchCompiler typed(String keys, String text) {
        TextSwitchCompiler x = with(keys);
        type(x, text);
        return x;
    }

    private static void withoutTable() {
        TextSwitchCompiler x = with(WITHOUT_TABLE);
        x.setLoad(90);
        CHECK.state("15: find(3)", () -> x.find(3));
        x.setLoad(100);
        type(x, "2r");
        CHECK.answers("15: find(2)", 6, () -> x.find(2));
        CHECK.state("15: find(3)", () -> x.find(3));
        CHECK.state("16: branch(3)", () -> x.branch(3));
        CHECK.state("17: examined(3)", () -> x.examined(3));
        CHECK.state("18: cost(3)", () -> x.cost(3));
        CHECK.state("19: worst(3)", () -> x.worst(3));
        CHECK.state("20: meanBits(3)", () -> x.meanBits(3));
        CHECK.state("25: table(0)", () -> x.table(0));
        CHECK.argument("25: table(5)", () -> x.table(5));
        CHECK.state("26: slot(0)", () -> x.slot(0));
        CHECK.state("26: slot(-1)", () -> x.slot(-1));
        CHECK.state("27: displacement(0)", () -> x.displacement(0));
        CHECK.state("28: densityBits()", x::densityBits);
        CHECK.state("29: listing(3, -1)", () -> x.listing(3, -1));
        CHECK.state("29: listing(3, 0)", () -> x.listing(3, 0));
        CHECK.argument("29: listing(4, 0)", () -> x.listing(4, 0));
        CHECK.answers("21: best()", 2, x::best);
        x.remove(1);
        CHECK.answers("15: a table with one key less", 5, () -> x.find(3));
    }

    private static void strategiesFollowChanges() {
        TextSwitchCompiler x = fourKeys();
        runs(x, "cow", 2, 6, 5, 3, 4);
        x.remove(0);
        runs(x, "cow", 1, 4, 3, 3, 4);
        runs(x, "cat", -1, 3, 3, 2);
        x.clear();
        type(x, "del:cow;add:cat=7");
        x.execute();
        runs(x, "cat", 2, 4, 3, 3, 4);
        x.save();
        x.remove(2);
        runs(x, "a", 1, 1, 1, 1, 1);
        x.restore();
        runs(x, "cat", 2, 4, 3, 3, 4);
        checkListing("29: follows", x, 1, "a=4,cat=7,dog=2");
    }
}
