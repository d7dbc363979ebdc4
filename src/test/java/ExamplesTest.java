/** The examples of the document, call by call. */
public final class ExamplesTest {
    private static final Check CHECK = new Check("ExamplesTest");

    private ExamplesTest() {
    }

    public static void main(String[] args) {
        fourKeys();
        keysOfTwoLetters();
        weightsAndNeighbors();
        commandsWithErrors();
        CHECK.close();
    }

    private static void appends(TextSwitchCompiler x, int[] packed, int[] due) {
        for (int i = 0; i < packed.length; i++) {
            int word = packed[i];
            CHECK.answers("append(" + word + ")", due[i], () -> x.append(word));
        }
    }

    private static void fourKeys() {
        TextSwitchCompiler x = new TextSwitchCompiler();
        appends(x, new int[] {1633969210, 1667330917, 1026636641, 1684290147, 1634886973, 842752356, 1681548129,
            1919171891, 996238436, 979660605, 52}, new int[] {4, 8, 12, 16, 20, 24, 28, 32, 36, 40, 41});
        CHECK.answers("execute()", 4, x::execute);
        CHECK.answers("trees(0)", 2, () -> x.trees(0));
        CHECK.answers("trees(1)", 2, () -> x.trees(1));
        CHECK.answers("selected()", 12, x::selected);
        CHECK.answers("append(1667330661)", 4, () -> x.append(1667330661));
        CHECK.answers("find(2)", 1, () -> x.find(2));
        CHECK.answers("examined(0)", 7, () -> x.examined(0));
        CHECK.answers("examined(1)", 4, () -> x.examined(1));
        CHECK.answers("examined(2)", 4, () -> x.examined(2));
        CHECK.answers("examined(3)", 6, () -> x.examined(3));
    }

    private static void keysOfTwoLetters() {
        TextSwitchCompiler x = new TextSwitchCompiler();
        appends(x, new int[] {1633969210, 1633828145, 996238436, 979525949, 842752356, 1681547617, 1026767713,
            1684290146, 6438196}, new int[] {4, 8, 12, 16, 20, 24, 28, 32, 35});
        CHECK.answers("execute()", 4, x::execute);
        CHECK.answers("selected()", 3, x::selected);
        CHECK.answers("table(0)", 4, () -> x.table(0));
        CHECK.answers("table(1)", 2, () -> x.table(1));
        CHECK.answers("densityBits()", 1065353216, x::densityBits);
        CHECK.answers("append(25443)", 2, () -> x.append(25443));
        CHECK.answers("find(3)", -1, () -> x.find(3));
        CHECK.answers("branch(2)", -1, () -> x.branch(2));
    }

    private static void weightsAndNeighbors() {
        TextSwitchCompiler x = new TextSwitchCompiler();
        appends(x, new int[] {1633969210, 2016492849, 996238436, 980955709, 842757989, 1768384628, 980955709, 51},
            new int[] {4, 8, 12, 16, 20, 24, 28, 29});
        CHECK.answers("execute()", 3, x::execute);
        CHECK.answers("cost(0)", 14, () -> x.cost(0));
        CHECK.answers("worst(0)", 4, () -> x.worst(0));
        CHECK.answers("property(0, 4)", 1, () -> x.property(0, 4));
        CHECK.answers("difference(0, 1)", 1, () -> x.difference(0, 1));
        CHECK.answers("best()", 2, x::best);
    }

    private static void commandsWithErrors() {
        TextSwitchCompiler x = new TextSwitchCompiler();
        appends(x, new int[] {1633969210, 1869298993, 996238436, 980380477, 50}, new int[] {4, 8, 12, 16, 17});
        CHECK.state("execute()", x::execute);
        CHECK.answers("errorPosition()", 9, x::errorPosition);
        CHECK.answers("size(0)", 0, () -> x.size(0));
        appends(x, new int[] {1819238756, 4010800}, new int[] {4, 7});
        CHECK.argument("execute()", x::execute);
        CHECK.answers("errorPosition()", 5, x::errorPosition);
    }
}
