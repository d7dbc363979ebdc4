import java.lang.reflect.InvocationTargetException;
import java.lang.reflect.Method;

/**
 * One test of a sentence: a new object, and rows of calls with the answers that are due, written as the
 * document writes its examples. Rows beside calls:
 *
 * <pre>
 * type abc       appends the characters, four a call
 * keys a b c     adds keys with the branches 0, 1, 2 and so on, after 9 from 0 again
 * list 2 = 1:a=0 reads a whole listing and the length of it
 * </pre>
 *
 * An answer is a number, a character in quotes, the bits of a quotient ("double 7/3", "float 4/6"), or
 * throws and the exception's name.
 */
final class Trial {
    /** What later calls answer is free. */
    private static final int MOST_CALLS = 512;

    private final TextSwitchCompiler x = new TextSwitchCompiler();
    private final Check check;
    private final String about;
    private int calls = 0;

    Trial(Check check, String about) {
        this.check = check;
        this.about = about;
    }

    void run(String... rows) {
        for (String row : rows) {
            String[] parts = row.split(" ", 2);
            switch (parts[0]) {
                case "type" -> type(parts[1]);
                case "keys" -> addKeys(parts[1].split(" "));
                case "list" -> list(parts[1].substring(0, 1), parts[1].substring("0 = ".length()));
                default -> call(row);
            }
        }
        check.same(about + ": at most " + MOST_CALLS + " calls", String.valueOf(calls <= MOST_CALLS), "true");
    }

    private void type(String text) {
        for (int i = 0; i < text.length(); i += 4) {
            int packed = 0;
            for (int j = i; j < text.length() && j < i + 4; j++) {
                packed = packed << 8 | text.charAt(j);
            }
            answer("append", packed);
        }
    }

    private void addKeys(String[] keys) {
        for (int key = 0; key < keys.length; key++) {
            type(keys[key]);
            check.same(about + ": adding " + keys[key], answer("add", key % 10), String.valueOf(key));
        }
    }

    private void list(String strategy, String due) {
        int number = Integer.parseInt(strategy);
        String length = answer("listing", number, -1);
        String what = about + ": list " + strategy;
        check.same(what + ": its length", length, String.valueOf(due.length()));
        StringBuilder got = new StringBuilder();
        for (int index = 0; !length.startsWith("throws") && index < Integer.parseInt(length); index++) {
            got.append((char) Integer.parseInt(answer("listing", number, index)));
        }
        check.same(what, got.toString(), due);
    }

    private void call(String row) {
        String[] sides = row.split(" = ", 2);
        int open = sides[0].indexOf('(');
        String inside = sides[0].substring(open + 1, sides[0].length() - 1);
        String[] words = inside.isEmpty() ? new String[0] : inside.split(", ");
        int[] arguments = new int[words.length];
        for (int i = 0; i < words.length; i++) {
            arguments[i] = number(words[i]);
        }
        check.same(about + ": " + sides[0], answer(sides[0].substring(0, open), arguments), due(sides[1]));
    }

    private static int number(String word) {
        return switch (word) {
            case "MIN" -> Integer.MIN_VALUE;
            case "MAX" -> Integer.MAX_VALUE;
            default -> Long.decode(word).intValue();
        };
    }

    private static String due(String told) {
        if (told.startsWith("throws ")) {
            return told;
        }
        if (told.startsWith("'")) {
            return String.valueOf((int) told.charAt(1));
        }
        if (told.startsWith("double ") || told.startsWith("float ")) {
            String[] words = told.split("[ /]");
            int over = Integer.parseInt(words[1]);
            int under = Integer.parseInt(words[2]);
            return told.startsWith("double ") ? String.valueOf(Double.doubleToLongBits((double) over / (double) under))
                : String.valueOf(Float.floatToIntBits((float) over / (float) under));
        }
        return String.valueOf(Long.decode(told));
    }

    private String answer(String name, int... arguments) {
        calls++;
        Object[] given = new Object[arguments.length];
        for (int i = 0; i < arguments.length; i++) {
            given[i] = arguments[i];
        }
        try {
            return String.valueOf(method(name, arguments.length).invoke(x, given));
        } catch (InvocationTargetException e) {
            return "throws " + e.getCause().getClass().getSimpleName();
        } catch (IllegalAccessException e) {
            throw new AssertionError(e);
        }
    }

    private static Method method(String name, int parameters) {
        for (Method method : TextSwitchCompiler.class.getMethods()) {
            if (method.getName().equals(name) && method.getParameterCount() == parameters) {
                return method;
            }
        }
        throw new AssertionError("the face has no " + name + " with " + parameters + " parameters");
    }
}
