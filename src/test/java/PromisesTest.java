/** Each promise by itself: ordinary inputs, the edges that the document names, and wrong inputs. */
public final class PromisesTest {
    private static final int A = 1;
    private static final int B = 2;
    private static final int C = 4;
    private static final int Z = 1 << 25;

    private PromisesTest() {
    }

    public static void main(String[] args) {
        aNewObject();
        putTakesTheLowestBytes();
        putRefuses();
        putLeavesTheModel();
        readAnswersPlaces();
        readTellsWhereNoModelGoesOn();
        readTellsATextTooShort();
        readTellsWhatIsTooMuch();
        readEndsTextModelAndRow();
        isClear();
        competing();
        isEmpty();
        first();
        next();
        last();
        name();
        come();
        isWhole();
        may();
        again();
        longestUse();
        Checks.end();
    }

    private static void aNewObject() {
        Checks.dueWithoutModel("new: ", new ModelDesk());
        Checks.due("new: read", new ModelDesk().read(), -1);
        ModelDesk one = Checks.deskOf("(a)");
        Checks.due("two objects: another one's model", one.first(), 1);
        Checks.due("two objects: none of its own", new ModelDesk().first(), 0);
    }

    private static void putTakesTheLowestBytes() {
        ModelDesk desk = new ModelDesk();
        Checks.due("put (a)", desk.put(0x7879_2861_29L, 3), true);
        Checks.due("read (a)", desk.read(), 1);
        Checks.due("put byte by byte", desk.put('(', 1) && desk.put('z', 1) && desk.put(')', 1), true);
        Checks.due("read (z)", desk.read(), 1);
        Checks.due("name of z", desk.name(0), 25);
        Checks.due("put of eight", desk.put(0x2861_7C62_7C63_292BL, 8), true);
        Checks.due("read (a|b|c)+", desk.read(), 3);
        Checks.due("+ was read", desk.next(2), 7);
        Checks.due("put with a high bit", desk.put(0xA861_29L, 3), true);
        Checks.due("byte 168 is no bracket", desk.read(), -1);
        Checks.due("put of minus one", desk.put(-1L, 8), true);
        Checks.due("byte 255 is no bracket", desk.read(), -1);
    }

    private static void putRefuses() {
        ModelDesk desk = new ModelDesk();
        int[] wrong = {0, -1, 9, 10, 16, Integer.MIN_VALUE, Integer.MAX_VALUE, Integer.MAX_VALUE - 299};
        Checks.putText(desk, "(a");
        for (int n : wrong) {
            Checks.due("put(.., " + n + ")", desk.put(0x2929_2929_2929_2929L, n), false);
        }
        Checks.due("put of the bracket", desk.put(')', 1), true);
        Checks.due("nothing refused came behind the text", desk.read(), 1);

        Checks.putText(desk, "(" + " ".repeat(294) + "a)");
        Checks.due("297 + 4 bytes", desk.put(0x2020_2020L, 4), false);
        Checks.due("297 + 8 bytes", desk.put(0x2020_2020_2020_2020L, 8), false);
        Checks.due("297 bytes are read", desk.read(), 1);
        Checks.putText(desk, "(" + " ".repeat(297) + "a)");
        Checks.due("301 bytes", desk.put('?', 1), false);
        Checks.due("300 bytes are read", desk.read(), 1);
        Checks.due("no ? came", desk.isEmpty(), false);
        Checks.putText(desk, "(" + " ".repeat(299));
        Checks.due("300 bytes too short", desk.read(), -301);
        Checks.due("there is room again", Checks.readText(desk, "(b)"), 1);
        Checks.putText(desk, " ".repeat(296));
        Checks.due("296 + 4 bytes", desk.put(0x2020_2020L, 4), true);
        Checks.due("300 + 1", desk.put(' ', 1), false);
    }

    private static void putLeavesTheModel() {
        ModelDesk desk = Checks.deskOf("(a,b)");
        Checks.due("a comes", desk.come(0), true);
        Checks.putText(desk, "(c)");
        Checks.due("first behind put", desk.first(), 1);
        Checks.due("may behind put", desk.may(), B);
        Checks.due("again behind put", desk.again(), 1);
        Checks.due("read behind all that", desk.read(), 1);
        Checks.due("the new name", desk.name(0), 2);
    }

    private static void dueRead(String text, int want) {
        ModelDesk desk = new ModelDesk();
        Checks.due("read " + text, Checks.readText(desk, text), want);
        if (want < 0) {
            Checks.dueWithoutModel("behind " + text + ": ", desk);
        }
    }

    private static void readAnswersPlaces() {
        dueRead("(a)", 1);
        dueRead("(z)", 1);
        dueRead("(a)?", 1);
        dueRead("(a)*", 1);
        dueRead("(a)+", 1);
        dueRead("(a|b)", 2);
        dueRead("(a,b,c)", 3);
        dueRead("(a?,b*,c+)", 3);
        dueRead("(a?|b*|c+)+", 3);
        dueRead("(  a  ,  (  b?  |  c  )*  )", 3);
        dueRead("((a,b)|(c|d)|e)", 5);
        dueRead("((((((((((((a))))))))))))", 1);
        dueRead("((((((((((((a)?)*)+)?)*)+)?)*)+)?)*)+", 1);
        dueRead("(" + Checks.repeated("a", ",", 60) + ")", 60);
        dueRead("(" + Checks.repeated("(a)", "|", 60) + ")", 60);
    }

    private static void readTellsWhereNoModelGoesOn() {
        dueRead("a", -1);
        dueRead(" (a)", -1);
        dueRead(")", -1);
        dueRead("()", -2);
        dueRead("( )", -3);
        dueRead("(?", -2);
        dueRead("(|", -2);
        dueRead("(A)", -2);
        dueRead("(`)", -2);
        dueRead("({)", -2);
        dueRead("(1)", -2);
        dueRead("(\t", -2);
        dueRead("(\u00e1)", -2);
        dueRead("(\u0000", -2);
        dueRead("(ab)", -3);
        dueRead("(a b)", -4);
        dueRead("(a(b))", -3);
        dueRead("(a\u0000b)", -3);
        dueRead("(a ?)", -4);
        dueRead("(a??)", -4);
        dueRead("(a?*)", -4);
        dueRead("(a? +)", -5);
        dueRead("((a)??)", -6);
        dueRead("((a) ?)", -6);
        dueRead("(a,)", -4);
        dueRead("(a|)", -4);
        dueRead("(a,,b)", -4);
        dueRead("(a, |b)", -5);
        dueRead("(a,?)", -4);
        dueRead("(a|b,c)", -5);
        dueRead("(a,b|c)", -5);
        dueRead("(a,b,(c|d)|e)", -11);
        dueRead("((a|b),c|d)", -9);
        dueRead("((a,b),(c|d,e))", -12);
        dueRead("(a)b", -4);
        dueRead("(a) ", -4);
        dueRead("(a))", -4);
        dueRead("(a),", -4);
        dueRead("(a)|", -4);
        dueRead("(a)(", -4);
        dueRead("(a)? ", -5);
        dueRead("(a)??", -5);
        dueRead("(a)*)", -5);
        dueRead("(a)?b", -5);
        dueRead("(a)?(b)", -5);
    }

    private static void readTellsATextTooShort() {
        dueRead("", -1);
        dueRead("(", -2);
        dueRead("( ", -3);
        dueRead("(a", -3);
        dueRead("(a ", -4);
        dueRead("(a?", -4);
        dueRead("(a,", -4);
        dueRead("(a,b", -5);
        dueRead("((a)", -5);
        dueRead("((a)+", -6);
        dueRead("((((((((((((", -13);
        dueRead("(" + Checks.repeated("a", ",", 60), -121);
        dueRead("(" + Checks.repeated("a", ",", 60) + ",", -122);
    }

    private static void readTellsWhatIsTooMuch() {
        dueRead("(((((((((((((", -1012);
        dueRead("(((((((((((((a)))))))))))))", -1012);
        dueRead("(a,( (((((((((((", -1015);
        dueRead("(a,((((((((((((b))))))))))))*)", -1014);
        dueRead("(((((((((((((A", -1012);
        dueRead("(((((((((((A((", -12);
        dueRead("(((((((((((a),((b),(c))),d)))))))))", 4);
        dueRead("(" + Checks.repeated("a", ",", 61) + ")", -1121);
        dueRead("(" + Checks.repeated("a", "|", 61), -1121);
        dueRead("(" + Checks.repeated("a", "|", 60) + "| (z", -1123);
        dueRead("(" + Checks.repeated("a", "|", 60) + "|A", -122);
        dueRead("(" + Checks.repeated("a", "|", 60) + "a", -121);
    }

    private static void readEndsTextModelAndRow() {
        ModelDesk desk = Checks.deskOf("(a,b)*");
        Checks.due("a comes", desk.come(0), true);
        Checks.due("read of no text", desk.read(), -1);
        Checks.dueWithoutModel("behind a read of no text: ", desk);
        Checks.due("a wrong text", Checks.readText(desk, "(a,b"), -5);
        Checks.due("has gone", Checks.readText(desk, "(c,d)"), 2);
        Checks.due("c comes", desk.come(2), true);
        Checks.due("a text too much", Checks.readText(desk, "((((((((((((((("), -1012);
        Checks.dueWithoutModel("behind what is too much: ", desk);
        Checks.due("a model", Checks.readText(desk, "(c,d,e)"), 3);
        Checks.due("c comes", desk.come(2), true);
        Checks.due("a smaller model", Checks.readText(desk, "(c)"), 1);
        Checks.due("nothing has come", desk.again(), 0);
        Checks.due("nothing stays behind c", desk.next(0), 0);
        Checks.due("no second place", desk.next(1), 0);
        Checks.due("no second name", desk.name(1), -1);
        Checks.due("may c", desk.may(), C);
        Checks.due("not whole", desk.isWhole(), false);
        Checks.due("an empty model", Checks.readText(desk, "(c)?"), 1);
        Checks.due("whole at once", desk.isWhole(), true);
    }

    private static void dueCompeting(String text, int names) {
        ModelDesk desk = Checks.deskOf(text);
        Checks.due("competing in " + text, desk.competing(), names);
        Checks.due("isClear of " + text, desk.isClear(), names == 0);
    }

    private static void isClear() {
        dueCompeting("(a)", 0);
        dueCompeting("(a,a)", 0);
        dueCompeting("(a,a)*", 0);
        dueCompeting("(a)+", 0);
        dueCompeting("((a*)*)+", 0);
        dueCompeting("(a|b|z)*", 0);
        dueCompeting("(a,(b|c)*,a)", 0);
        dueCompeting("(a?,b?,c?)", 0);
        dueCompeting("((b,a)|(c,a))", 0);
    }

    private static void competing() {
        dueCompeting("(a|a)", A);
        dueCompeting("(a?,a)", A);
        dueCompeting("(a+,a)", A);
        dueCompeting("(a*,a)", A);
        dueCompeting("(b,(a,b)?,a)", A);
        dueCompeting("(a,(b,a)*,b)", B);
        dueCompeting("((a,b)|(a,c))", A);
        dueCompeting("(c,(a|z),(z?,z))", Z);
        dueCompeting("(a?,b?,c?,a,b,c)", A);
        dueCompeting("(a?,b?,c?,a?,b?,c)", A | B | C);
        dueCompeting("(a,b?,c?)*", 0);
        dueCompeting("(a,b,a?)*", A);
        dueCompeting("((a|b),(z|z))", Z);
        dueCompeting("(a|b|a|b|c)", A | B);
        dueCompeting("(a|" + Checks.repeated("b", "|", 58) + "|a)", A | B);
    }

    private static void isEmpty() {
        String[] empty = {"(a)?", "(a)*", "(a?)", "(a*)+", "(a?,b*)", "(a|b?)", "(a?|b)", "((a,b)?,c?)",
            "((a?,b?)+)", "(a|b|(c*))"};
        String[] full = {"(a)", "(a)+", "(a?,b)", "(a,b?)", "(a|b)", "(a|b+)", "((a?,b)+)", "(a?,b*,c)",
            "((a,b?),c?)"};
        for (String text : empty) {
            Checks.due("isEmpty of " + text, Checks.deskOf(text).isEmpty(), true);
        }
        for (String text : full) {
            Checks.due("isEmpty of " + text, Checks.deskOf(text).isEmpty(), false);
        }
        ModelDesk desk = Checks.deskOf("(a)?");
        desk.come(0);
        Checks.due("isEmpty is of the model, not of what came", desk.isEmpty(), true);
    }

    private static void first() {
        Checks.due("first of (a)", Checks.deskOf("(a)").first(), 1);
        Checks.due("first of (a,b)", Checks.deskOf("(a,b)").first(), 1);
        Checks.due("first of (a|b)", Checks.deskOf("(a|b)").first(), 3);
        Checks.due("first of (a?,b*,c+,d)", Checks.deskOf("(a?,b*,c+,d)").first(), 7);
        Checks.due("first of ((a?,b?),c,d)", Checks.deskOf("((a?,b?),c,d)").first(), 7);
        Checks.due("first of ((a,b)?,(c|d),e)", Checks.deskOf("((a,b)?,(c|d),e)").first(), 13);
        Checks.due("first of (a?,b)+", Checks.deskOf("(a?,b)+").first(), 3);
        Checks.due("first of 60", Checks.deskOf("(" + Checks.repeated("a", "|", 60) + ")").first(), (1L << 60) - 1);
        ModelDesk desk = Checks.deskOf("(a,b)");
        desk.come(0);
        Checks.due("first is of the model, not of what came", desk.first(), 1);
    }

    private static void dueNext(String text, long... nexts) {
        ModelDesk desk = Checks.deskOf(text);
        for (int p = 0; p < nexts.length; p++) {
            Checks.due("next(" + p + ") in " + text, desk.next(p), nexts[p]);
        }
        int[] wrong = {-1, nexts.length, 60, 63, 64, Integer.MIN_VALUE, Integer.MAX_VALUE};
        for (int p : wrong) {
            Checks.due("next(" + p + ") in " + text, desk.next(p), 0);
        }
    }

    private static void next() {
        dueNext("(a)", 0);
        dueNext("(a)?", 0);
        dueNext("(a)*", 1);
        dueNext("(a+)", 1);
        dueNext("(a,b)", 2, 0);
        dueNext("(a|b)", 0, 0);
        dueNext("(a|b)*", 3, 3);
        dueNext("(a,b)+", 2, 1);
        dueNext("(a,b)?", 2, 0);
        dueNext("(a,b?,c)", 6, 4, 0);
        dueNext("(a,b*,c?,d)", 14, 14, 8, 0);
        dueNext("(a?,b?)*", 3, 3);
        dueNext("((a|b),(c|d))", 12, 12, 0, 0);
        dueNext("((a,b)|(c,d))+", 2, 5, 8, 5);
        dueNext("((a,b?)*,c)", 7, 5, 0);
        long[] sixty = new long[60];
        for (int p = 0; p < 59; p++) {
            sixty[p] = 1L << p + 1;
        }
        sixty[59] = 1;
        dueNext("(" + Checks.repeated("a", ",", 60) + ")*", sixty);
    }

    private static void last() {
        Checks.due("last of (a)", Checks.deskOf("(a)").last(), 1);
        Checks.due("last of (a,b)", Checks.deskOf("(a,b)").last(), 2);
        Checks.due("last of (a|b)", Checks.deskOf("(a|b)").last(), 3);
        Checks.due("last of (a,b?,c*)", Checks.deskOf("(a,b?,c*)").last(), 7);
        Checks.due("last of (a,b+)", Checks.deskOf("(a,b+)").last(), 2);
        Checks.due("last of (a,(b?,c?))", Checks.deskOf("(a,(b?,c?))").last(), 7);
        Checks.due("last of ((a|b),(c,d)?)", Checks.deskOf("((a|b),(c,d)?)").last(), 11);
        Checks.due("last of 60", Checks.deskOf("(" + Checks.repeated("a?", ",", 60) + ")").last(), (1L << 60) - 1);
        ModelDesk desk = Checks.deskOf("(a,b)");
        desk.come(0);
        Checks.due("last is of the model, not of what came", desk.last(), 2);
    }

    private static void name() {
        ModelDesk desk = Checks.deskOf("(z?,(a|m)*,z)");
        int[] due = {25, 0, 12, 25};
        for (int p = 0; p < due.length; p++) {
            Checks.due("name(" + p + ")", desk.name(p), due[p]);
        }
        int[] wrong = {-1, 4, 5, 59, 60, 64, Integer.MIN_VALUE, Integer.MAX_VALUE};
        for (int p : wrong) {
            Checks.due("name(" + p + ")", desk.name(p), -1);
        }
        StringBuilder all = new StringBuilder("(a");
        for (char c = 'b'; c <= 'z'; c++) {
            all.append(',').append(c);
        }
        ModelDesk alphabet = Checks.deskOf(all.append(')').toString());
        for (int p = 0; p < 26; p++) {
            Checks.due("name(" + p + ") of 26", alphabet.name(p), p);
        }
        ModelDesk full = Checks.deskOf("(" + Checks.repeated("b", "|", 59) + "|c)");
        Checks.due("name(59) of 60", full.name(59), 2);
        Checks.due("name(60) of 60", full.name(60), -1);
    }

    private static void come() {
        ModelDesk desk = Checks.deskOf("(a,(b|c)*,d)");
        int[] wrong = {-1, 26, 32, 64, 'a', Integer.MIN_VALUE, Integer.MAX_VALUE, 1, 3};
        for (int name : wrong) {
            Checks.due("come(" + name + ") at first", desk.come(name), false);
        }
        Checks.due("nothing refused has come", desk.again(), 0);
        Checks.due("acb come", Checks.comeAll(desk, "acb"), true);
        Checks.due("a does not", desk.come(0), false);
        Checks.due("no 26th", desk.come(26), false);
        Checks.due("what was refused left all as it was", desk.come(3), true);
        Checks.due("nothing comes behind d", Checks.comeAll(desk, "a") || Checks.comeAll(desk, "d"), false);
        Checks.due("four had come", desk.again(), 4);

        ModelDesk unclear = Checks.deskOf("((a,b)|(a,c)|(a,a,d))");
        Checks.due("ab", Checks.comeAll(unclear, "ab"), true);
        unclear.again();
        Checks.due("ac", Checks.comeAll(unclear, "ac"), true);
        unclear.again();
        Checks.due("aad", Checks.comeAll(unclear, "aad"), true);
        unclear.again();
        Checks.due("aa and no b", Checks.comeAll(unclear, "aab"), false);

        ModelDesk stays = Checks.deskOf("(a,b)");
        Checks.due("ab", Checks.comeAll(stays, "ab"), true);
        stays.come(0);
        stays.come(27);
        Checks.due("still whole behind a refusal", stays.isWhole(), true);
    }

    private static void dueWhole(String text, String row, boolean want) {
        ModelDesk desk = Checks.deskOf(text);
        Checks.due(row + " comes in " + text, Checks.comeAll(desk, row), true);
        Checks.due(row + " is whole in " + text, desk.isWhole(), want);
    }

    private static void isWhole() {
        dueWhole("(a,b)", "", false);
        dueWhole("(a,b)", "a", false);
        dueWhole("(a,b)", "ab", true);
        dueWhole("(a,b)?", "", true);
        dueWhole("(a,b)?", "a", false);
        dueWhole("(a,b)*", "aba", false);
        dueWhole("(a,b)*", "abab", true);
        dueWhole("(a)+", "", false);
        dueWhole("(a)+", "aaa", true);
        dueWhole("((a,b)|a)", "a", true);
        dueWhole("((a,a)|a)*", "aaa", true);
        dueWhole("(a*,a,b)", "aaa", false);
        dueWhole("(" + Checks.repeated("a?", ",", 60) + ")", "a".repeat(60), true);
    }

    private static void may() {
        ModelDesk desk = Checks.deskOf("(a?,(b|z)*,c)");
        Checks.due("may at first", desk.may(), A | B | C | Z);
        desk.come(25);
        Checks.due("may behind z", desk.may(), B | C | Z);
        desk.come(0);
        Checks.due("may behind a refused a", desk.may(), B | C | Z);
        desk.come(2);
        Checks.due("may behind c", desk.may(), 0);
        desk.again();
        Checks.due("may again", desk.may(), A | B | C | Z);
        ModelDesk unclear = Checks.deskOf("((a,b)|(a,c))");
        unclear.come(0);
        Checks.due("may behind both a", unclear.may(), B | C);
        unclear.come(1);
        Checks.due("may behind one b", unclear.may(), 0);
    }

    private static void again() {
        ModelDesk desk = Checks.deskOf("(a,b)*");
        Checks.due("again at first", desk.again(), 0);
        Checks.due("aba", Checks.comeAll(desk, "aba"), true);
        Checks.due("again of three", desk.again(), 3);
        Checks.due("again at once", desk.again(), 0);
        Checks.due("whole again", desk.isWhole(), true);
        Checks.due("no b at first", desk.come(1), false);
        Checks.due("a", desk.come(0), true);
        Checks.due("not whole behind a", desk.isWhole(), false);
        Checks.due("again of one", desk.again(), 1);
        Checks.due("the model stays", desk.name(1), 1);
    }

    private static void longestUse() {
        ModelDesk desk = Checks.deskOf("(a)*");
        for (int call = 0; call < 509; call++) {
            Checks.due("come " + call, desk.come(0), true);
        }
        Checks.due("again of 509, the 512th call", desk.again(), 509);
    }
}
