import java.io.IOException;
import java.nio.file.Files;
import java.nio.file.Path;
import java.util.ArrayList;
import java.util.LinkedHashMap;
import java.util.List;
import java.util.Map;
import java.util.TreeSet;

/**
 * The document's sentences, each with the tests that quote it. A quote that is not in the document, and a
 * sentence that no test quotes, are failures: so a change of the document is seen here.
 */
final class Sentences {
    static final String ARGUMENT = " = throws IllegalArgumentException";
    static final String STATE = " = throws IllegalStateException";
    static final String INDEX = " = throws IndexOutOfBoundsException";
    static final String ARITHMETIC = " = throws ArithmeticException";

    /** Keys without a table at the loads 90 and 100. */
    static final String WITHOUT_TABLE = "keys 2 44 z p 20 u 2r 8 k1";
    static final String TWENTY_KEYS =
        "keys k0 k1 k2 k3 k4 k5 k6 k7 k8 k9 kk0 kk1 kk2 kk3 kk4 kk5 kk6 kk7 kk8 kk9";
    /** Keys as long as they can be, and as many as there can be. */
    static final String LONGEST_KEYS = "keys abcdefga abcdefgb abcdefgc abcdefgd abcdefge abcdefgf abcdefgg "
        + "abcdefgh abcdefgi abcdefgj abcdefgk abcdefgl abcdefgm abcdefgn abcdefgo abcdefgp abcdefgq abcdefgr abcdefgs "
        + "abcdefgt";
    /** Twenty keys in the tree with the most nodes: each has two children. */
    static final String NINETEEN_NODES = "keys aaaaaaaa aaaabbab aaabbaba aabaabbb aabbabaa abaaaaab abaabbba ababbabb "
        + "abbabaaa abbbabab baaaaaba baaabbbb baabbbaa bababaab babbabba bbaaaabb bbabaaaa bbabbbab bbbababa bbbbabbb";

    private static final Path DOCUMENT = Path.of("../shared/DOC.md");

    /** What holds no answer of a call: titles, and parameters and results that another sentence describes. */
    private static final List<String> WITHOUT_ANSWER = List.of("The class is not thread-safe.", "Keys.",
        "Strategies.", "Strategy 0.", "Strategy 1.", "Strategy 2.", "Strategy 3.", "Commands.", "Listings.", "Runs.",
        "Trees and tables.", "Snapshots.", "- `packed`: the characters", "- `key`: the number of the key",
        "- `position`: the position", "- `one`: the number of a key", "- `other`: the number of another key",
        "- `strategy`: the strategy", "- `seed`: the seed", "- `slot`: the slot", "- `bucket`: the bucket",
        "Returns the property.", "Returns the position.", "Returns the size.", "Returns the cost.", "Returns the hash.",
        "Returns the strategy.", "Returns the displacement.", "Returns the selected positions.",
        "Returns a size.", "Returns a size of the table.", "Returns a property of a key.",
        "The constructor and the methods follow, a promise each: the signature, then what it does.");

    private final Check check;
    private final Map<String, List<String>> sections = new LinkedHashMap<>();
    private final TreeSet<String> quoted = new TreeSet<>();
    private String section = "";

    Sentences(Check check) throws IOException {
        this.check = check;
        read(Files.readAllLines(DOCUMENT));
    }

    /** The tests that follow quote this section: "Description", or a promise by its number. */
    void in(String title) {
        section = title;
        check.same("the section " + title, String.valueOf(sections.containsKey(title)), "true");
    }

    /** One test: a quote of the section, a new object, and the rows of its calls. */
    void test(String quote, String... rows) {
        String holder = "";
        for (String sentence : sections.getOrDefault(section, List.of())) {
            if (sentence.contains(quote)) {
                holder = sentence;
            }
        }
        check.same(section + " does not say \"" + quote + "\"", String.valueOf(holder.isEmpty()), "false");
        quoted.add(section + ": " + holder);
        new Trial(check, section + ", \"" + quote + "\"").run(rows);
    }

    /** Several rows of the same kind, for tests of many wrong arguments. */
    static String[] each(String before, String after, String... words) {
        String[] rows = new String[words.length];
        for (int i = 0; i < words.length; i++) {
            rows[i] = before + words[i] + after;
        }
        return rows;
    }

    static String[] joined(String[]... parts) {
        List<String> rows = new ArrayList<>();
        for (String[] part : parts) {
            rows.addAll(List.of(part));
        }
        return rows.toArray(new String[0]);
    }

    static String[] rows(String... rows) {
        return rows;
    }

    void checkThatEachIsQuoted() {
        sections.forEach((title, sentences) -> {
            for (String sentence : sentences) {
                boolean seen = WITHOUT_ANSWER.contains(sentence) || quoted.contains(title + ": " + sentence);
                check.same("a test for " + title + ", \"" + sentence + "\"", String.valueOf(seen), "true");
            }
        });
    }

    private void read(List<String> lines) {
        String title = "";
        StringBuilder block = new StringBuilder();
        boolean examples = false;
        for (String line : lines) {
            examples = !line.isBlank() && (examples || line.startsWith("Examples:"));
            if (examples) {
                // ExamplesTest has them, call by call.
                continue;
            }
            if (line.startsWith("## ")) {
                close(title, block);
                title = titleOf(line.substring(3));
            } else if (line.isBlank()) {
                close(title, block);
            } else if (line.startsWith("- ") || line.startsWith("  ") && line.contains(" = ")) {
                close(title, block);
                block.append(line);
            } else {
                block.append(' ').append(line);
            }
        }
        close(title, block);
    }

    /** What stands before the description and behind the promises asks for nothing. */
    private static String titleOf(String heading) {
        if (heading.startsWith("Promise ")) {
            return heading.substring(0, heading.indexOf(':'));
        }
        return heading.equals("Description") ? heading : "";
    }

    private void close(String title, StringBuilder block) {
        String text = block.toString().trim().replaceAll(" +", " ");
        block.setLength(0);
        if (!title.isEmpty() && !text.isEmpty() && !text.startsWith("`")) {
            List<String> sentences = sections.computeIfAbsent(title, t -> new ArrayList<>());
            sentences.addAll(List.of(text.split("(?<=\\.) (?=[A-Za-z])")));
        }
    }
}
