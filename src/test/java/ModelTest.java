/**
 * Long runs of calls, the same ones on the class and on the model, whose answers must agree. The calls
 * come from a fixed sequence of numbers, so that every run of this test is the same.
 */
public final class ModelTest {
    private static final int RUNS = 1000;
    private static final int CALLS = 512;
    private static final String[] NAMES = {"append", "clear", "add", "remove", "setBranch", "setWeight", "setLoad",
        "execute", "errorPosition", "property", "character", "difference", "size", "find", "branch", "examined",
        "cost", "worst", "meanBits", "best", "trees", "selected", "hash", "table", "slot", "displacement",
        "densityBits", "listing", "save", "restore"};
    private static final String[] ALPHABETS = {"ab", "a0z", "abc", "abcdefghijklmnopqrstuvwxyz0123456789"};

    /** Keys for which, with load 100, all seeds fail or only late ones do not, and keys for deep trees. */
    private static final String[] STARTS = {"2,44,z,p,20,u,2r,8,k1", "a,dx,f,qv,qg,8a,hv,5x,g,s8",
        "h7,y,ia,i7,ai,gk,gu,cl,3", "zo,g7,pq,ln,n0,a0,zg,i,r,sd", "e,fk,6,yb,cy,ft,2s,h6,x",
        "i,e,h,o,s,7,8,6,u,z,l,k,0,n,c,p", "d,q,4,3,p,0,v,j,i,7,n,m,9,o,s,g", "n,8,7,i,4,z,p,e,o,b,g,j,l,w,9,0",
        "k,6,w,5,a,l,g,s,m,t,j,7,1,b,8,i", "a,t7,5,n9,kx,r2,y,81,p,b4,6,fz",
        "aaaaaaaa,baaaaaaa,abaaaaaa,aabaaaaa,aaabaaaa,aaaabaaa,aaaaabaa,aaaaaaba,aaaaaaab"};

    private final Check check;
    private final StringBuilder told = new StringBuilder();
    private final int run;
    private final String alphabet;
    private final int leastLength;
    private final int mostLength;
    private long number;
    private TextSwitchCompiler real = new TextSwitchCompiler();
    private Model model = new Model();
    private int calls = 0;

    private ModelTest(Check check, int run) {
        this.check = check;
        this.run = run;
        number = run * 7919L + 17;
        alphabet = ALPHABETS[below(ALPHABETS.length)];
        leastLength = 1 + below(8);
        mostLength = leastLength + below(9 - leastLength);
    }

    public static void main(String[] args) {
        Check check = new Check("ModelTest");
        int runs = args.length > 0 ? Integer.parseInt(args[0]) : RUNS;
        for (int run = 0; run < runs && !check.hasFailed(); run++) {
            new ModelTest(check, run).go();
        }
        check.close();
    }

    private int below(int bound) {
        number = number * 6364136223846793005L + 1442695040888963407L;
        return (int) ((number >>> 33) % bound);
    }

    private boolean sometimes(int oneIn) {
        return below(oneIn) == 0;
    }

    private void go() {
        int goal = 1 + below(20);
        if (run % 5 == 0) {
            goal = 20;
            for (String key : STARTS[run / 5 % STARTS.length].split(",")) {
                type(key);
                call(2, below(10), 0);
            }
        }
        int end = run % 3 == 0 ? 100 : CALLS - 260;
        while (calls < end && !check.hasFailed()) {
            if (model.count() < goal && run % 5 != 0 && !sometimes(4)) {
                addKey();
            } else {
                step();
            }
        }
        for (int strategy = run % 4; strategy < 8; strategy++) {
            list(strategy % 4);
        }
    }

    private void list(int strategy) {
        call(27, strategy, -1);
        for (int index = 0; index <= 600 && calls < CALLS && index <= model.listingLength(strategy); index++) {
            call(27, strategy, index);
        }
    }

    private void step() {
        switch (below(12)) {
            case 0 -> addKey();
            case 1 -> command();
            case 2, 3 -> query();
            case 4 -> {
                call(1, 0, 0);
                type(sometimes(4) ? randomText(below(12)) : nearKey());
                search();
            }
            case 5 -> search();
            case 6 -> {
                call(27, below(4), -1);
                call(27, below(5), below(60) - 1);
            }
            case 7 -> call(5, key(), 1 + below(99));
            case 8 -> call(sometimes(2) ? 28 : 29, 0, 0);
            case 9 -> call(6, 50 + below(51), 0);
            case 10 -> {
                if (sometimes(3)) {
                    call(3, key(), 0);
                }
            }
            default -> anything();
        }
    }

    /** Any call, with arguments round the ends of their ranges. */
    private void anything() {
        int op = below(NAMES.length);
        switch (NAMES[op]) {
            case "append" -> call(op, sometimes(2) ? below(1 << 30) * 4 + below(4) : edgeSign() << 8 * below(4), 0);
            case "add", "find", "branch", "examined", "cost", "worst", "meanBits", "trees", "table", "size" ->
                call(op, sometimes(2) ? below(5) - 1 : below(14) - 2, 0);
            case "remove", "slot", "displacement" -> call(op, edgeKey(), 0);
            case "setBranch", "property", "character" -> call(op, edgeKey(), below(12) - 1);
            case "setWeight" -> call(op, edgeKey(), sometimes(2) ? below(4) - 1 : 97 + below(5));
            case "setLoad" -> call(op, sometimes(2) ? 48 + below(4) : 98 + below(5), 0);
            case "difference" -> call(op, edgeKey(), edgeKey());
            case "listing" -> call(op, below(6) - 1, below(230) - 3);
            default -> call(op, below(1 << 30) * 4 + below(4), 0);
        }
    }

    private int edgeSign() {
        return new int[] {0, 1, 32, 33, 126, 127, 128, 161, 255}[below(9)];
    }

    private int edgeKey() {
        return switch (below(8)) {
            case 0 -> -1;
            case 1 -> model.count();
            case 2 -> Integer.MAX_VALUE;
            case 3 -> Integer.MIN_VALUE + below(2);
            case 4 -> model.count() - 1;
            default -> key();
        };
    }

    private int key() {
        return below(Math.max(model.count(), 1));
    }

    private String randomText(int length) {
        StringBuilder text = new StringBuilder();
        for (int i = 0; i < length; i++) {
            text.append(alphabet.charAt(below(alphabet.length())));
        }
        return text.toString();
    }

    private String randomKey() {
        return randomText(leastLength + below(mostLength - leastLength + 1));
    }

    private String nearKey() {
        if (model.count() == 0) {
            return randomKey();
        }
        StringBuilder text = new StringBuilder(model.keyText(key()));
        if (sometimes(3)) {
            text.setCharAt(below(text.length()), alphabet.charAt(below(alphabet.length())));
        }
        if (sometimes(8)) {
            text.setLength(below(text.length()));
        }
        if (sometimes(8)) {
            text.append(randomText(1 + below(3)));
        }
        return text.toString();
    }

    private void type(String text) {
        for (int i = 0; i < text.length(); i += 4) {
            int packed = 0;
            for (int j = i; j < text.length() && j < i + 4; j++) {
                packed = packed << 8 | text.charAt(j);
            }
            call(0, packed, 0);
        }
    }

    private void addKey() {
        if (!sometimes(10)) {
            call(1, 0, 0);
        }
        type(randomKey());
        call(2, below(10), 0);
    }

    private String oldKey() {
        return model.count() == 0 || sometimes(20) ? nearKey() : model.keyText(key());
    }

    private String command(int kind) {
        return switch (kind) {
            case 0, 1, 2 -> "add:" + (sometimes(15) ? nearKey() : randomKey()) + "=" + below(10);
            case 3 -> "del:" + oldKey();
            case 4, 5 -> "weight:" + oldKey() + "=" + (sometimes(12) ? below(200) : 1 + below(99));
            default -> "load=" + (sometimes(8) ? below(1200) : 50 + below(51));
        };
    }

    private void command() {
        StringBuilder text = new StringBuilder(command(below(7)));
        while (text.length() < 60 && !sometimes(4)) {
            text.append(';').append(command(below(7)));
        }
        if (text.length() > 60) {
            text.setLength(text.lastIndexOf(";"));
        }
        if (sometimes(4)) {
            int place = below(text.length());
            char sign = "azd09:=;-A{`/@Z1".charAt(below(16));
            if (sometimes(2)) {
                text.setCharAt(place, sign);
            } else if (sometimes(2)) {
                text.insert(place, sign);
            } else {
                text.deleteCharAt(place);
            }
        }
        if (sometimes(8)) {
            text.setLength(below(text.length() + 1));
        }
        call(1, 0, 0);
        type(text.substring(0, Math.min(60, text.length())));
        call(7, 0, 0);
        call(8, 0, 0);
    }

    private void search() {
        int strategy = below(4);
        for (int i = 0, first = below(6); i < 6; i++) {
            call(13 + (first + i) % 6, strategy, 0);
        }
        call(22, below(100) - 50, 0);
    }

    private void query() {
        for (int i = 0, first = below(9); i < 9; i++) {
            switch ((first + i) % 9) {
                case 0 -> call(9, key(), below(5));
                case 1 -> call(11, key(), key());
                case 2 -> call(19, 0, 0);
                case 3 -> call(20, below(4), 0);
                case 4 -> call(21, 0, 0);
                case 5 -> call(23, below(5), 0);
                case 6 -> call(24, below(24), 0);
                case 7 -> call(25, below(8), 0);
                default -> call(26, 0, 0);
            }
        }
    }

    private void call(int op, int one, int other) {
        if (calls < CALLS && !check.hasFailed()) {
            calls++;
            String what = NAMES[op] + "(" + one + ", " + other + ")";
            String due = Check.told(() -> onModel(op, one, other));
            String got = Check.told(() -> onReal(op, one, other));
            told.append(what).append(" = ").append(due).append("; ");
            check.same("run " + run + ": " + (due.equals(got) ? "" : told) + what, got, due);
        }
    }

    private long onReal(int op, int one, int other) {
        return switch (NAMES[op]) {
            case "append" -> real.append(one);
            case "clear" -> real.clear();
            case "add" -> real.add(one);
            case "remove" -> real.remove(one);
            case "setBranch" -> real.setBranch(one, other);
            case "setWeight" -> real.setWeight(one, other);
            case "setLoad" -> real.setLoad(one);
            case "execute" -> real.execute();
            case "errorPosition" -> real.errorPosition();
            case "property" -> real.property(one, other);
            case "character" -> real.character(one, other);
            case "difference" -> real.difference(one, other);
            case "size" -> real.size(one);
            case "find" -> real.find(one);
            case "branch" -> real.branch(one);
            case "examined" -> real.examined(one);
            case "cost" -> real.cost(one);
            case "worst" -> real.worst(one);
            case "meanBits" -> real.meanBits(one);
            case "best" -> real.best();
            case "trees" -> real.trees(one);
            case "selected" -> real.selected();
            case "hash" -> real.hash(one);
            case "table" -> real.table(one);
            case "slot" -> real.slot(one);
            case "displacement" -> real.displacement(one);
            case "densityBits" -> real.densityBits();
            case "listing" -> real.listing(one, other);
            case "save" -> real.save();
            default -> real.restore();
        };
    }

    private long onModel(int op, int one, int other) {
        return switch (NAMES[op]) {
            case "append" -> model.append(one);
            case "clear" -> model.clear();
            case "add" -> model.add(one);
            case "remove" -> model.remove(one);
            case "setBranch" -> model.setBranch(one, other);
            case "setWeight" -> model.setWeight(one, other);
            case "setLoad" -> model.setLoad(one);
            case "execute" -> model.execute();
            case "errorPosition" -> model.errorPosition();
            case "property" -> model.property(one, other);
            case "character" -> model.character(one, other);
            case "difference" -> model.difference(one, other);
            case "size" -> model.size(one);
            case "find" -> model.find(one);
            case "branch" -> model.branch(one);
            case "examined" -> model.examined(one);
            case "cost" -> model.cost(one);
            case "worst" -> model.worst(one);
            case "meanBits" -> model.meanBits(one);
            case "best" -> model.best();
            case "trees" -> model.trees(one);
            case "selected" -> model.selected();
            case "hash" -> model.hash(one);
            case "table" -> model.table(one);
            case "slot" -> model.slot(one);
            case "displacement" -> model.displacement(one);
            case "densityBits" -> model.densityBits();
            case "listing" -> model.listing(one, other);
            case "save" -> model.save();
            default -> model.restore();
        };
    }
}
