import java.util.ArrayList;
import java.util.Arrays;
import java.util.Comparator;
import java.util.HashMap;
import java.util.List;
import java.util.Map;
import java.util.Optional;
import java.util.TreeMap;
import java.util.TreeSet;
import java.util.regex.Matcher;
import java.util.regex.Pattern;
import java.util.stream.Collectors;
import java.util.stream.IntStream;

/**
 * The document once more, in the most direct words of the Java library, and with as little state as it
 * can have. The class under test is compared with it.
 */
final class Model {
    /** A key with its branch and its weight. */
    record Key(String text, int branch, int weight) {
    }

    /** What a run of a strategy finds and how many characters it examines. */
    record Run(int found, int examined) {
    }

    /** A table of strategy 3; owners holds the number of the key for each slot that is taken. */
    record Table(int seed, int slots, int[] displacements, int[] sizes, Map<Integer, Integer> owners) {
    }

    /** A tree of strategy 2: a leaf has a key, a node a position and children. */
    record Tree(int key, int position, TreeMap<Character, Tree> children) {
    }

    private List<Key> keys = new ArrayList<>();
    private int load = 100;
    private String buffer = "";
    private int error = -1;
    private List<Key> savedKeys = null;
    private int savedLoad = 0;
    /** Found once for the texts, or for the load and the texts, since they take long. */
    private final Map<List<String>, List<Integer>> keptPositions = new HashMap<>();
    private final Map<String, Optional<Table>> keptTables = new HashMap<>();

    String keyText(int key) {
        return keys.get(key).text;
    }

    int count() {
        return keys.size();
    }

    /** The length of a listing, or -1 if there is none. */
    int listingLength(int strategy) {
        return strategy == 3 && !hasTable() ? -1 : listing(strategy).length();
    }

    boolean hasTable() {
        return table() != null;
    }

    int append(int packed) {
        StringBuilder more = new StringBuilder();
        for (int b : new int[] {packed >>> 24, packed >> 16 & 0xff, packed >> 8 & 0xff, packed & 0xff}) {
            if (b != 0) {
                argument(b >= 33 && b <= 126);
                more.append((char) b);
            }
        }
        state(buffer.length() + more.length() <= 60);
        buffer += more;
        return buffer.length();
    }

    int clear() {
        int length = buffer.length();
        buffer = "";
        return length;
    }

    int add(int branch) {
        argument(buffer.matches("[a-z0-9]{1,8}") && branch >= 0 && branch <= 9);
        state(numberOf(buffer, keys) < 0 && keys.size() < 20);
        keys.add(new Key(buffer, branch, 1));
        buffer = "";
        return keys.size() - 1;
    }

    int remove(int key) {
        has(key);
        keys.remove(key);
        return keys.size();
    }

    int setBranch(int key, int branch) {
        has(key);
        argument(branch >= 0 && branch <= 9);
        Key old = keys.get(key);
        keys.set(key, new Key(old.text, branch, old.weight));
        return old.branch;
    }

    int setWeight(int key, int weight) {
        has(key);
        argument(weight >= 1 && weight <= 99);
        Key old = keys.get(key);
        keys.set(key, new Key(old.text, old.branch, weight));
        return old.weight;
    }

    int setLoad(int percent) {
        argument(percent >= 50 && percent <= 100);
        int old = load;
        load = percent;
        return old;
    }

    int execute() {
        String text = buffer;
        buffer = "";
        error = formError(text);
        argument(error < 0);
        List<Key> draft = new ArrayList<>(keys);
        int draftLoad = load;
        int start = 0;
        String[] commands = text.split(";");
        for (String command : commands) {
            String[] parts = command.split("[:=]");
            int at = numberOf(parts[1], draft);
            boolean fine = true;
            if (parts[0].equals("load")) {
                draftLoad = Integer.parseInt(parts[1]);
            } else if (parts[0].equals("add")) {
                fine = at < 0 && draft.size() < 20;
                draft.add(new Key(parts[1], Integer.parseInt(parts[2]), 1));
            } else if (at < 0) {
                fine = false;
            } else if (parts[0].equals("del")) {
                draft.remove(at);
            } else {
                draft.set(at, new Key(parts[1], draft.get(at).branch, Integer.parseInt(parts[2])));
            }
            if (!fine) {
                error = start;
            }
            state(fine);
            start += command.length() + 1;
        }
        keys = draft;
        load = draftLoad;
        return commands.length;
    }

    int errorPosition() {
        return error;
    }

    int property(int key, int what) {
        has(key);
        argument(what >= 0 && what <= 4);
        Key it = keys.get(key);
        return switch (what) {
            case 0 -> it.branch;
            case 1 -> it.weight;
            case 2 -> it.text.length();
            case 3 -> (int) keys.stream().filter(k -> k.text.compareTo(it.text) < 0).count();
            default -> (int) keys.stream().filter(k -> distance(k.text, it.text) == 1).count();
        };
    }

    int character(int key, int position) {
        has(key);
        index(position >= 0 && position < keyText(key).length());
        return keyText(key).charAt(position);
    }

    int difference(int one, int other) {
        has(one);
        has(other);
        argument(one != other);
        int p = Arrays.mismatch(keyText(one).toCharArray(), keyText(other).toCharArray());
        return p;
    }

    int size(int what) {
        argument(what >= 0 && what <= 2);
        return what == 0 ? keys.size() : what == 1 ? load : buffer.length();
    }

    int find(int strategy) {
        return run(strategy, buffer).found;
    }

    int branch(int strategy) {
        int found = run(strategy, buffer).found;
        return found < 0 ? -1 : keys.get(found).branch;
    }

    int examined(int strategy) {
        return run(strategy, buffer).examined;
    }

    int cost(int strategy) {
        requireRun(strategy);
        return keys.stream().mapToInt(k -> k.weight * run(strategy, k.text).examined).sum();
    }

    int worst(int strategy) {
        requireRun(strategy);
        return keys.stream().mapToInt(k -> run(strategy, k.text).examined).max().orElse(0);
    }

    long meanBits(int strategy) {
        int cost = cost(strategy);
        if (keys.isEmpty()) {
            throw new ArithmeticException();
        }
        return Double.doubleToLongBits((double) cost / (double) keys.stream().mapToInt(Key::weight).sum());
    }

    int best() {
        return IntStream.range(0, keys.isEmpty() || hasTable() ? 4 : 3).boxed()
            .min(Comparator.comparing(this::cost)).get();
    }

    int trees(int what) {
        argument(what >= 0 && what <= 3);
        int[] sizes = new int[4];
        for (Tree tree : forest().values()) {
            sizes[0]++;
            walk(tree, 0, sizes);
        }
        return sizes[what];
    }

    int selected() {
        return positions().stream().mapToInt(p -> 1 << p).sum();
    }

    int hash(int seed) {
        return hash(buffer, seed, positions());
    }

    int table(int what) {
        argument(what >= 0 && what <= 4);
        Table table = table();
        state(table != null);
        return switch (what) {
            case 0 -> table.slots;
            case 1 -> table.displacements.length;
            case 2 -> table.seed;
            case 3 -> Arrays.stream(table.displacements).max().getAsInt();
            default -> Arrays.stream(table.sizes).max().getAsInt();
        };
    }

    int slot(int slot) {
        Table table = table();
        state(table != null);
        index(slot >= 0 && slot < table.slots);
        return table.owners.getOrDefault(slot, -1);
    }

    int displacement(int bucket) {
        Table table = table();
        state(table != null);
        index(bucket >= 0 && bucket < table.displacements.length);
        return table.displacements[bucket];
    }

    int densityBits() {
        Table table = table();
        state(table != null);
        return Float.floatToIntBits((float) keys.size() / (float) table.slots);
    }

    int listing(int strategy, int index) {
        argument(strategy >= 0 && strategy <= 3);
        String text = listing(strategy);
        index(index >= -1 && index < text.length());
        return index < 0 ? text.length() : text.charAt(index);
    }

    int save() {
        savedKeys = new ArrayList<>(keys);
        savedLoad = load;
        return keys.size();
    }

    int restore() {
        state(savedKeys != null);
        keys = new ArrayList<>(savedKeys);
        load = savedLoad;
        return keys.size();
    }

    String listing(int strategy) {
        return switch (strategy) {
            case 0 -> IntStream.range(0, keys.size()).mapToObj(this::entry).collect(Collectors.joining(","));
            case 1 -> ordered().stream().map(this::entry).collect(Collectors.joining(","));
            case 2 -> forest().entrySet().stream().map(e -> e.getKey() + ":" + written(e.getValue()))
                .collect(Collectors.joining(";"));
            default -> writtenTable();
        };
    }

    private static void argument(boolean fine) {
        if (!fine) {
            throw new IllegalArgumentException();
        }
    }

    private static void state(boolean fine) {
        if (!fine) {
            throw new IllegalStateException();
        }
    }

    private static void index(boolean fine) {
        if (!fine) {
            throw new IndexOutOfBoundsException();
        }
    }

    private void has(int key) {
        index(key >= 0 && key < keys.size());
    }

    private static int numberOf(String text, List<Key> among) {
        return among.stream().map(Key::text).toList().indexOf(text);
    }

    /** The number of positions at which texts of the same length differ, or -1 for other lengths. */
    private static int distance(String one, String other) {
        return one.length() != other.length() ? -1
            : (int) IntStream.range(0, one.length()).filter(i -> one.charAt(i) != other.charAt(i)).count();
    }

    private static final Pattern WORD = Pattern.compile("[a-z]*");
    private static final Pattern KEY = Pattern.compile("[a-z0-9]{1,8}");
    private static final Pattern NUMBER = Pattern.compile("[1-9][0-9]{0,2}");

    /** The position of the first form error, or -1. */
    private static int formError(String text) {
        int at = 0;
        while (true) {
            String word = found(WORD, text, at);
            if (!List.of("add", "del", "weight", "load").contains(word)) {
                return at;
            }
            at += word.length();
            String sign = word.equals("load") ? "=" : ":";
            if (!text.startsWith(sign, at)) {
                return at;
            }
            at++;
            if (!word.equals("load")) {
                String key = found(KEY, text, at);
                if (key == null) {
                    return at;
                }
                at += key.length();
                if (!word.equals("del")) {
                    if (!text.startsWith("=", at)) {
                        return at;
                    }
                    at++;
                }
            }
            if (word.equals("add")) {
                if (at == text.length() || "0123456789".indexOf(text.charAt(at)) < 0) {
                    return at;
                }
                at++;
            }
            if (word.equals("weight") || word.equals("load")) {
                String number = found(NUMBER, text, at);
                if (number == null) {
                    return at;
                }
                int value = Integer.parseInt(number);
                if (word.equals("weight") ? value > 99 : value < 50 || value > 100) {
                    return at;
                }
                at += number.length();
            }
            if (at == text.length()) {
                return -1;
            }
            if (text.charAt(at) != ';') {
                return at;
            }
            at++;
        }
    }

    private static String found(Pattern pattern, String text, int from) {
        Matcher matcher = pattern.matcher(text).region(from, text.length());
        return matcher.lookingAt() ? matcher.group() : null;
    }

    private String entry(int key) {
        return keyText(key) + "=" + keys.get(key).branch;
    }

    private List<Integer> ordered() {
        return IntStream.range(0, keys.size()).boxed().sorted(Comparator.comparing(this::keyText)).toList();
    }

    private void requireRun(int strategy) {
        argument(strategy >= 0 && strategy <= 3);
        state(strategy != 3 || keys.isEmpty() || hasTable());
    }

    private Run run(int strategy, String text) {
        requireRun(strategy);
        return switch (strategy) {
            case 0 -> linear(text);
            case 1 -> binary(text);
            case 2 -> inTrees(text);
            default -> inTable(text);
        };
    }

    /** The characters examined at positions that both have. */
    private static int both(String text, String key) {
        int p = Arrays.mismatch(text.toCharArray(), key.toCharArray());
        int shorter = Math.min(text.length(), key.length());
        return p < 0 || p >= shorter ? shorter : p + 1;
    }

    private static int matched(String text, String key) {
        return text.length() == key.length() ? both(text, key) : 0;
    }

    private Run linear(String text) {
        int examined = 0;
        for (int key = 0; key < keys.size(); key++) {
            examined += matched(text, keyText(key));
            if (text.equals(keyText(key))) {
                return new Run(key, examined);
            }
        }
        return new Run(-1, examined);
    }

    private Run binary(String text) {
        List<Integer> order = ordered();
        int low = 0;
        int high = order.size() - 1;
        int examined = 0;
        while (low <= high) {
            int middle = (low + high) / 2;
            String key = keyText(order.get(middle));
            examined += both(text, key);
            if (text.equals(key)) {
                return new Run(order.get(middle), examined);
            }
            if (text.compareTo(key) < 0) {
                high = middle - 1;
            } else {
                low = middle + 1;
            }
        }
        return new Run(-1, examined);
    }

    private TreeMap<Integer, Tree> forest() {
        TreeMap<Integer, List<Integer>> groups = new TreeMap<>();
        for (int key = 0; key < keys.size(); key++) {
            groups.computeIfAbsent(keyText(key).length(), length -> new ArrayList<>()).add(key);
        }
        TreeMap<Integer, Tree> forest = new TreeMap<>();
        groups.forEach((length, group) -> forest.put(length, treeOf(group)));
        return forest;
    }

    private TreeMap<Character, List<Integer>> parted(List<Integer> group, int position) {
        TreeMap<Character, List<Integer>> parts = new TreeMap<>();
        for (int key : group) {
            parts.computeIfAbsent(keyText(key).charAt(position), c -> new ArrayList<>()).add(key);
        }
        return parts;
    }

    private Tree treeOf(List<Integer> group) {
        if (group.size() == 1) {
            return new Tree(group.get(0), -1, null);
        }
        Comparator<Integer> greatest = Comparator.comparing(
            p -> parted(group, p).values().stream().mapToInt(List::size).max().getAsInt());
        Comparator<Integer> order = greatest.thenComparing(p -> -parted(group, p).size());
        int position = IntStream.range(0, keyText(group.get(0)).length()).boxed().min(order).get();
        TreeMap<Character, Tree> children = new TreeMap<>();
        parted(group, position).forEach((c, part) -> children.put(c, treeOf(part)));
        return new Tree(-1, position, children);
    }

    private void walk(Tree tree, int above, int[] sizes) {
        if (tree.children == null) {
            sizes[2]++;
            sizes[3] = Math.max(sizes[3], above);
        } else {
            sizes[1]++;
            tree.children.values().forEach(child -> walk(child, above + 1, sizes));
        }
    }

    private String written(Tree tree) {
        return tree.children == null ? entry(tree.key) : tree.children.entrySet().stream()
            .map(e -> e.getKey() + ":" + written(e.getValue()))
            .collect(Collectors.joining(",", tree.position + "{", "}"));
    }

    private Run inTrees(String text) {
        Tree tree = forest().get(text.length());
        TreeSet<Integer> seen = new TreeSet<>();
        while (tree != null && tree.children != null) {
            seen.add(tree.position);
            tree = tree.children.get(text.charAt(tree.position));
        }
        int examined = seen.size();
        if (tree == null) {
            return new Run(-1, examined);
        }
        for (int p = 0; p < text.length(); p++) {
            if (!seen.contains(p)) {
                examined++;
                if (text.charAt(p) != keyText(tree.key).charAt(p)) {
                    return new Run(-1, examined);
                }
            }
        }
        return new Run(tree.key, examined);
    }

    private boolean separate(List<Integer> positions) {
        long different = keys.stream().map(k -> k.text.length() + positions.stream()
            .map(p -> p < k.text.length() ? "" + k.text.charAt(p) : "-").collect(Collectors.joining()))
            .distinct().count();
        return different == keys.size();
    }

    private List<Integer> positions() {
        return keptPositions.computeIfAbsent(texts(), texts -> leastPositions());
    }

    private List<String> texts() {
        return keys.stream().map(Key::text).toList();
    }

    private List<Integer> leastPositions() {
        for (int size = 0; size <= 8; size++) {
            List<Integer> set = firstSet(new ArrayList<>(), 0, size);
            if (set != null) {
                return set;
            }
        }
        throw new AssertionError("equal keys");
    }

    /** The lexicographically first set that separates the keys, of those that begin as it is told. */
    private List<Integer> firstSet(List<Integer> begun, int from, int more) {
        if (more == 0) {
            return separate(begun) ? begun : null;
        }
        for (int p = from; p < 8; p++) {
            List<Integer> longer = new ArrayList<>(begun);
            longer.add(p);
            List<Integer> set = firstSet(longer, p + 1, more - 1);
            if (set != null) {
                return set;
            }
        }
        return null;
    }

    private static int hash(String text, int seed, List<Integer> positions) {
        int h = seed;
        for (int p : positions) {
            h = 31 * h + (p < text.length() ? text.charAt(p) : 0);
        }
        h = 31 * h + text.length();
        h = h ^ (h >>> 15);
        h = h * 739982445;
        h = h ^ (h >>> 12);
        return h;
    }

    private Table table() {
        return keptTables.computeIfAbsent(load + " " + texts(), state -> Optional.ofNullable(firstTable()))
            .orElse(null);
    }

    private Table firstTable() {
        if (keys.isEmpty()) {
            return null;
        }
        List<Integer> positions = positions();
        int slots = (int) Math.ceil(100.0 * keys.size() / load);
        for (int seed = 0; seed <= 297; seed += 3) {
            Table table = tableFor(seed, slots, positions);
            if (table != null) {
                return table;
            }
        }
        return null;
    }

    private static int slotOf(String text, int seed, int d, int slots, List<Integer> positions) {
        return Math.floorMod(hash(text, seed + 1, positions) + d * (hash(text, seed + 2, positions) | 1), slots);
    }

    private Table tableFor(int seed, int slots, List<Integer> positions) {
        int count = (keys.size() + 2) / 3;
        List<List<Integer>> buckets = new ArrayList<>();
        for (int b = 0; b < count; b++) {
            int bucket = b;
            buckets.add(IntStream.range(0, keys.size()).boxed()
                .filter(k -> Math.floorMod(hash(keyText(k), seed, positions), count) == bucket).toList());
        }
        List<Integer> turns = IntStream.range(0, count).boxed()
            .sorted(Comparator.comparing(b -> -buckets.get(b).size())).toList();
        Map<Integer, Integer> owners = new TreeMap<>();
        int[] displacements = new int[count];
        for (int b : turns) {
            int d = 0;
            while (d < 100 && !buckets.get(b).isEmpty()) {
                int tried = d;
                Map<Integer, Integer> more = new TreeMap<>(owners);
                buckets.get(b).forEach(k -> more.put(slotOf(keyText(k), seed, tried, slots, positions), k));
                if (more.size() == owners.size() + buckets.get(b).size()) {
                    owners = more;
                    break;
                }
                d++;
            }
            if (d == 100) {
                return null;
            }
            displacements[b] = d;
        }
        int[] sizes = buckets.stream().mapToInt(List::size).toArray();
        return new Table(seed, slots, displacements, sizes, owners);
    }

    private Run inTable(String text) {
        if (keys.isEmpty()) {
            return new Run(-1, 0);
        }
        Table table = table();
        List<Integer> positions = positions();
        int examined = (int) positions.stream().filter(p -> p < text.length()).count();
        int bucket = Math.floorMod(hash(text, table.seed, positions), table.displacements.length);
        int d = table.displacements[bucket];
        int key = table.owners.getOrDefault(slotOf(text, table.seed, d, table.slots, positions), -1);
        if (key < 0) {
            return new Run(-1, examined);
        }
        return new Run(text.equals(keyText(key)) ? key : -1, examined + matched(text, keyText(key)));
    }

    private String writtenTable() {
        Table table = table();
        state(table != null);
        return table.seed
            + "/" + positions().stream().map(String::valueOf).collect(Collectors.joining())
            + "/" + Arrays.stream(table.displacements).mapToObj(String::valueOf).collect(Collectors.joining(","))
            + "/" + IntStream.range(0, table.slots)
                .mapToObj(s -> table.owners.containsKey(s) ? keyText(table.owners.get(s)) : "-")
                .collect(Collectors.joining(","));
    }
}
