/** The sentences on commands, and on the promises 9 and 10. */
final class CommandBoundaries {
    private static final String ARGUMENT = Sentences.ARGUMENT;
    private static final String STATE = Sentences.STATE;
    private static final String FIRST_FORM_ERROR = "The text is read from left to right, and the first form error is "
        + "reported at its position";
    private static final String LONGEST_WORD =
        "At the beginning of a command, the longest sequence of letters a to z is read as one word.";
    private static final String WRONG_WORD =
        "at the first letter of a word that is none of add, del, weight and load";
    private static final String NOT_ALLOWED = "at a character that is not allowed";
    private static final String NINTH = "also the ninth character of a key";
    private static final String TOO_EARLY = "or at the length of the text if it ends too early";
    private static final String OUT_OF_RANGE = "at the first digit of a number that is out of range";
    private static final String SIGN_BEHIND =
        "Behind a word that is right, a character other than the sign behind it is not allowed.";

    private final Sentences s;

    private CommandBoundaries(Sentences s) {
        this.s = s;
    }

    static void test(Sentences sentences) {
        CommandBoundaries all = new CommandBoundaries(sentences);
        sentences.in("Description");
        all.texts();
        all.commands();
        all.keys();
        all.numbers();
        all.meanings();
        all.words();
        all.digitsOfNumbers();
        all.formErrors();
        all.order();
        all.executionErrors();
        all.execute();
        all.errorPosition();
    }

    /** A text with a form error, for a new object with the keys a and b, which stay as they are. */
    private void misformed(String quote, int position, String... texts) {
        for (String text : texts) {
            s.test(quote, Sentences.joined(Sentences.rows("keys a b"),
                text.isEmpty() ? Sentences.rows() : Sentences.rows("type " + text),
                Sentences.rows("execute()" + ARGUMENT, "errorPosition() = " + position, "size(2) = 0",
                    "list 0 = a=0,b=1", "property(0, 1) = 1", "property(1, 1) = 1", "size(1) = 100")));
        }
    }

    /** A text with an execution error, for a new object with the keys a and b, which stay as they are. */
    private void failing(String quote, int position, String text) {
        s.test(quote, "keys a b", "type " + text, "execute()" + STATE, "errorPosition() = " + position,
            "size(2) = 0", "list 0 = a=0,b=1", "property(0, 1) = 1", "property(1, 1) = 1", "size(1) = 100");
    }

    /** A text without an error, for a new object with the keys a and b. */
    private void executed(String quote, int commands, String text, String list) {
        s.test(quote, "keys a b", "type " + text, "execute() = " + commands, "errorPosition() = -1", "size(2) = 0",
            "list 0 = " + list);
    }

    private void texts() {
        s.test("The buffer can contain commands in this form", "keys xyz", "type xyz", "find(0) = 0", "clear() = 3",
            "type add:a=1", "find(0) = -1", "execute() = 1", "list 0 = xyz=0,a=1");
        String quote = "text = command { \";\" command }";
        executed(quote, 1, "add:c=2", "a=0,b=1,c=2");
        executed(quote, 2, "add:c=2;add:d=3", "a=0,b=1,c=2,d=3");
        executed(quote, 4, "load=50;del:a;weight:b=9;add:c=2", "b=1,c=2");
        s.test(quote, "keys a b c d e f g h i j", "type del:a;del:b;del:c;del:d;del:e;del:f;del:g;del:h;del:i;del:j",
            "size(2) = 59", "execute() = 10", "size(0) = 0");
        s.test(quote, "keys a b c d e f g h i jj", "type del:a;del:b;del:c;del:d;del:e;del:f;del:g;del:h;del:i;del:jj",
            "size(2) = 60", "execute() = 10", "size(0) = 0");
        misformed(quote, 0, "", ";", ";add:c=1", ";;");
        misformed(quote, 8, "add:c=1;", "add:c=1;;", "add:c=1;;add:d=1");
        misformed(quote, 7, "add:c=1,add:d=1", "add:c=1add:d=1", "add:c=1:add:d=1", "load=60add:d=1");
        misformed(quote, 5, "del:a,del:b", "del:a:", "del:a=1", "del:a!");
    }

    private void commands() {
        String quote = "command = \"add:\" key \"=\" digit | \"del:\" key | \"weight:\" key \"=\" number | \"load=\" "
            + "number";
        executed(quote, 1, "add:c=0", "a=0,b=1,c=0");
        executed(quote, 1, "add:c=9", "a=0,b=1,c=9");
        executed(quote, 1, "del:a", "b=1");
        executed(quote, 1, "weight:a=5", "a=0,b=1");
        executed(quote, 1, "load=55", "a=0,b=1");
        misformed(quote, 6, "add:c=", "add:c=a", "add:c=;", "add:c==1", "add:c=-1", "add:c=/", "add:c=:");
        misformed(quote, 7, "add:c=10", "add:c=00", "add:c=1x", "add:c=1=", "add:c=999");
        misformed(quote, 5, "add:c", "add:c;", "add:c:1", "add:c-1", "load=x", "load=-60", "load==60");
        misformed(quote, 9, "weight:a=x", "weight:a=-5", "weight:a==5", "weight:a=;");
        misformed(quote, 8, "weight:a", "weight:a;", "weight:a:5");
    }

    private void keys() {
        String quote = "key = one to eight letters a to z and digits";
        executed(quote, 3, "add:0=1;add:abcdefgh=2;add:z9=3", "a=0,b=1,0=1,abcdefgh=2,z9=3");
        executed(quote, 3, "add:01234567=1;add:9=2;del:01234567", "a=0,b=1,9=2");
        executed(quote, 3, "add:add=1;add:load=2;add:del=3", "a=0,b=1,add=1,load=2,del=3");
        misformed(quote, 4, "add:=1", "add:", "add:;", "add::c=1", "add:C=1", "add:-c=1", "add:`=1", "add:{=1",
            "add:/=1", "add:@=1", "add:[=1", "del:", "del:;", "del:=", "del:A", "del::");
        misformed(quote, 5, "add:cD=1", "add:c-d=1", "add:c{=1", "del:aB", "del:a/", "del:a:");
        misformed(quote, 7, "weight:=5", "weight:", "weight:A=5", "weight:;");
        misformed(quote, 12, "add:abcdefghi=1", "add:abcdefgh", "del:abcdefghi");
    }

    private void numbers() {
        String quote = "number = one to three digits that do not start with 0";
        s.test(quote, "keys a", "type weight:a=7", "execute() = 1", "property(0, 1) = 7", "type weight:a=10",
            "execute() = 1", "property(0, 1) = 10", "type load=100", "execute() = 1", "size(1) = 100");
        misformed(quote, 9, "weight:a=0", "weight:a=00", "weight:a=000", "weight:a=01", "weight:a=007",
            "weight:a=0x", "weight:a=050");
        misformed(quote, 5, "load=0", "load=050", "load=060", "load=0100", "load=0;foo");
    }

    private void meanings() {
        String add = "add adds a key with a branch and the weight 1";
        executed(add, 1, "add:c=7", "a=0,b=1,c=7");
        s.test(add, "keys a", "setWeight(0, 9) = 1", "type add:b=5;weight:a=8;del:a;add:a=6", "execute() = 4",
            "list 0 = b=5,a=6", "property(0, 1) = 1", "property(1, 1) = 1");
        executed("del removes a key", 1, "del:b", "a=0");
        s.test("del removes a key", "keys a b c", "setWeight(2, 5) = 1", "type del:a", "execute() = 1",
            "list 0 = b=1,c=2", "property(1, 1) = 5");
        String weight = "weight sets the weight of a key, 1 to 99";
        s.test(weight, "keys a b", "type weight:b=99", "execute() = 1", "property(1, 1) = 99", "property(0, 1) = 1",
            "type weight:b=1", "execute() = 1", "property(1, 1) = 1");
        misformed(weight, 9, "weight:a=0", "weight:a=100", "weight:a=999");
        String load = "load sets the load, 50 to 100";
        s.test(load, "type load=50", "execute() = 1", "size(1) = 50", "type load=100", "execute() = 1",
            "size(1) = 100", "type load=99", "execute() = 1", "size(1) = 99");
        misformed(load, 5, "load=49", "load=101", "load=1", "load=9", "load=10", "load=999");
    }

    private void words() {
        misformed(LONGEST_WORD, 0, "adds:c=1", "addadd:c=1", "addc=1", "dela", "delete:a", "weights:a=5", "loads=60",
            "loadload=60", "addload=60");
        misformed(LONGEST_WORD, 3, "add1:c=1", "addC:c=1", "del0", "delA:a");
        misformed(LONGEST_WORD, 4, "load60", "load1=60", "loadS=60");
        misformed(LONGEST_WORD, 8, "add:c=1;adds:d=1", "add:c=1;loadx=60");
        misformed(SIGN_BEHIND, 3, "add=c=1", "add;c=1", "add-c=1", "add!", "add/c=1", "add;add:c=1", "add`c=1",
            "add{c=1", "del=a", "del;", "del-a", "add@", "addA", "add[");
        misformed(SIGN_BEHIND, 4, "load:60", "load;", "load-60", "load:=60");
        misformed(SIGN_BEHIND, 6, "weight=a=5", "weight;", "weight5:a=5", "weight-a=5");
    }

    private void digitsOfNumbers() {
        String three = "Of a number, up to three digits are read, as many as follow";
        s.test(three, "keys a", "type weight:a=9", "execute() = 1", "property(0, 1) = 9", "type weight:a=98",
            "execute() = 1", "property(0, 1) = 98", "type load=100;load=75", "execute() = 2", "size(1) = 75",
            "type load=100", "execute() = 1", "size(1) = 100");
        String only = "and only then it is looked whether it is out of range";
        misformed(only, 9, "weight:a=100", "weight:a=1000", "weight:a=100x", "weight:a=999999", "weight:a=123;foo");
        misformed(only, 5, "load=101", "load=1010", "load=101x", "load=5000", "load=4", "load=4x", "load=49x",
            "load=49;foo", "load=5;foo");
        String fourth = "a fourth digit is a character that is not allowed";
        misformed(fourth, 8, "load=1000", "load=1005", "load=1000;foo", "load=10000");
    }

    private void formErrors() {
        misformed(FIRST_FORM_ERROR, 8, "add:c=1;foo;load=5", "load=100=;load=5", "load=100x;foo");
        misformed(FIRST_FORM_ERROR, 5, "load=49;foo;add", "load=49=");
        misformed(FIRST_FORM_ERROR, 0, "foo:a=1;load=49", "foo!", "foo=10000");
        misformed(WRONG_WORD, 0, "foo", "a", "ad:c=1", "de:a", "dl:a", "loa=60", "lod=60", "weigh:a=5", "weigth:a=5",
            "adc:c=1", "bdd:c=1", "z".repeat(60), "load".repeat(15));
        misformed(WRONG_WORD, 8, "add:c=1;foo", "add:c=1;ad:d=1", "add:c=1;a");
        misformed(WRONG_WORD, 56, "add:c=1;".repeat(7) + "zz", "add:c=1;".repeat(7) + "loax");
        misformed(NOT_ALLOWED, 0, "1", ":", "=", "!", "A", "Add:c=1", "1add:c=1", "-", "{", "`");
        misformed(NOT_ALLOWED, 8, "add:c=1;1", "add:c=1;:", "add:c=1;A");
        misformed(NINTH, 12, "add:abcdefghi=1", "add:012345678=1", "del:abcdefghi", "add:abcdefgh:", "add:abcdefgh;",
            "add:abcdefghA=1", "del:abcdefgh-", "add:abcdefghijklmnop=1");
        misformed(NINTH, 15, "weight:abcdefghi=5", "weight:012345678=5");
        executed(NINTH, 2, "add:abcdefgh=1;del:abcdefgh", "a=0,b=1");
        tooEarly();
        misformed(OUT_OF_RANGE, 9, "weight:a=0", "weight:a=100", "weight:a=999");
        misformed(OUT_OF_RANGE, 16, "weight:b=9;load=49", "weight:b=9;load=101");
        misformed(OUT_OF_RANGE, 5, "load=49", "load=101", "load=5", "load=0");
    }

    private void tooEarly() {
        misformed(TOO_EARLY, 0, "");
        misformed(TOO_EARLY, 3, "add", "del");
        misformed(TOO_EARLY, 4, "add:", "del:", "load");
        misformed(TOO_EARLY, 5, "add:c", "load=");
        misformed(TOO_EARLY, 6, "add:c=", "weight");
        misformed(TOO_EARLY, 7, "weight:");
        misformed(TOO_EARLY, 8, "weight:a", "add:c=1;", "load=60;");
        misformed(TOO_EARLY, 9, "weight:a=");
        misformed(TOO_EARLY, 6, "del:a;");
        misformed(TOO_EARLY, 11, "add:c=1;add", "add:c=1;del", "weight:a=5;");
        misformed(TOO_EARLY, 60, "del:a;".repeat(10), "add:c=1;".repeat(7) + "del:");
    }

    private void order() {
        String quote = "If there is no form error, the commands are executed in their order.";
        executed(quote, 3, "add:c=1;del:c;add:c=2", "a=0,b=1,c=2");
        executed(quote, 4, "del:a;add:a=5;del:b;add:b=6", "a=5,b=6");
        s.test(quote, "keys a", "type weight:a=5;weight:a=6;load=60;load=70", "execute() = 4", "property(0, 1) = 6",
            "size(1) = 70");
        s.test(quote, Sentences.TWENTY_KEYS, "type del:k0;add:new=1;del:k1;add:k0=2", "execute() = 4", "size(0) = 20",
            "type k0", "find(0) = 19");
        misformed(quote, 14, "del:a;add:c=1;foo", "add:a=1;del:c;foo");
    }

    private void executionErrors() {
        String first = "An execution error is reported at the first letter of the first command that cannot be "
            + "executed";
        failing(first, 8, "load=60;del:x;del:y;add:a=1");
        failing(first, 14, "add:c=1;del:c;del:c;add:a=1");
        failing(first, 55, "weight:a=1;weight:a=2;weight:a=3;weight:a=4;weight:a=5;del:x");
        String exists = "adding a key that exists already";
        failing(exists, 0, "add:a=1");
        failing(exists, 0, "add:b=1;add:c=1");
        failing(exists, 8, "add:c=1;add:c=2");
        failing(exists, 8, "add:c=1;add:a=0;del:a");
        executed(exists, 2, "del:a;add:a=9", "b=1,a=9");
        String tooMany = "or a 21st key";
        s.test(tooMany, Sentences.TWENTY_KEYS, "type add:new=1", "execute()" + STATE, "errorPosition() = 0",
            "size(0) = 20");
        s.test(tooMany, Sentences.TWENTY_KEYS, "type del:k0;add:k0=1;add:new=1", "execute()" + STATE,
            "errorPosition() = 16", "size(0) = 20", "character(0, 1) = '0'");
        s.test(tooMany, Sentences.TWENTY_KEYS, "remove(19) = 19", "type add:new=1", "execute() = 1", "size(0) = 20");
        s.test(tooMany, Sentences.TWENTY_KEYS, "remove(19) = 19", "type add:new=1;add:newer=1", "execute()" + STATE,
            "errorPosition() = 10", "size(0) = 19");
        String missing = "or removing or weighting a key that does not exist";
        failing(missing, 0, "del:c");
        failing(missing, 0, "del:aa");
        failing(missing, 6, "del:a;del:a");
        failing(missing, 0, "weight:c=5");
        failing(missing, 6, "del:a;weight:a=5");
        failing(missing, 0, "weight:ab=5;add:ab=1");
        s.test(missing, "type del:a", "execute()" + STATE, "errorPosition() = 0");
        s.test(missing, "type weight:a=1", "execute()" + STATE, "errorPosition() = 0");
    }

    private void execute() {
        s.in("Promise 9");
        s.test("Executes the commands in the buffer.", "keys a", "type load=70;weight:a=9;add:b=4", "execute() = 3",
            "size(1) = 70", "property(0, 1) = 9", "list 0 = a=0,b=4");
        String empty = "The buffer is empty afterwards, also if an exception is thrown";
        s.test(empty, "type add:a=1", "execute() = 1", "size(2) = 0", "clear() = 0");
        s.test(empty, "type foo", "execute()" + ARGUMENT, "size(2) = 0", "clear() = 0");
        s.test(empty, "type del:a", "execute()" + STATE, "size(2) = 0", "clear() = 0");
        String none = "if there is an error, no command is executed";
        failing(none, 33, "add:c=1;load=60;weight:a=9;del:b;del:b");
        misformed(none, 27, "add:c=1;load=60;weight:a=9;foo", "add:c=1;load=60;weight:a=9;");
        String count = "Returns the number of commands.";
        executed(count, 1, "load=60", "a=0,b=1");
        executed(count, 2, "load=60;load=60", "a=0,b=1");
        executed(count, 7, "load=60;load=61;load=62;load=63;load=64;load=65;load=66", "a=0,b=1");
        s.test("Throws `IllegalArgumentException` if there is a form error", "execute()" + ARGUMENT, "type add:a=1;",
            "execute()" + ARGUMENT, "size(0) = 0");
        misformed("Throws `IllegalArgumentException` if there is a form error", 6, "del:z;foo", "del:z;");
        s.test("Throws `IllegalStateException` if there is an execution error", "type add:a=1;add:a=1",
            "execute()" + STATE, "size(0) = 0");
    }

    private void errorPosition() {
        s.in("Promise 10");
        String recent = "Returns the position of the error in the text that execute read most recently, a form "
            + "error or an execution error";
        s.test(recent, "type add:a", "execute()" + ARGUMENT, "errorPosition() = 5", "type load=60;del:a",
            "execute()" + STATE, "errorPosition() = 8", "type load=5", "execute()" + ARGUMENT, "errorPosition() = 5",
            "type del:a", "execute()" + STATE, "errorPosition() = 0", "execute()" + ARGUMENT, "errorPosition() = 0");
        s.test(recent, "type " + "del:a;".repeat(10), "execute()" + ARGUMENT, "errorPosition() = 60");
        s.test("nothing else changes it", "keys a b", "type add:c=1;foo", "execute()" + ARGUMENT, "save() = 2",
            "restore() = 2", "clear() = 0", "type A", "add(0)" + ARGUMENT, "clear() = 1", "type c", "add(0) = 2",
            "remove(0) = 2", "setBranch(0, 3) = 1", "setWeight(0, 3) = 1", "setLoad(60) = 100", "remove(5)"
            + Sentences.INDEX, "append(1)" + ARGUMENT, "find(0) = -1", "best() = 2", "listing(0, -1) = 7",
            "find(9)" + ARGUMENT, "errorPosition() = 8", "errorPosition() = 8");
        String none = "or -1 if that text had no error or execute was not called";
        s.test(none, "errorPosition() = -1", "type foo", "errorPosition() = -1", "add(0) = 0", "type foo",
            "add(0)" + STATE, "errorPosition() = -1");
        s.test(none, "type foo", "execute()" + ARGUMENT, "errorPosition() = 0", "type load=60", "execute() = 1",
            "errorPosition() = -1");
    }
}
