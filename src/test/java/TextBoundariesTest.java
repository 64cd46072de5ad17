/** The boundary cases of a text (promises 1 to 3 and the terms), each sentence of the document alone. */
public final class TextBoundariesTest {
    private static final int MAX_BYTES = 300;

    private TextBoundariesTest() {
    }

    public static void main(String[] args) {
        Checks.only(args);
        newObject();
        put();
        readGood();
        readWrong();
        readTooMuch();
        readLeaves();
        Checks.end();
    }

    private static void newObject() {
        Checks.sentence("promise 1: no text", TextBoundariesTest::newHasNoText);
        Checks.sentence("promise 1: no model", TextBoundariesTest::newHasNoModel);
        Checks.sentence("terms: all memory is the class's own", TextBoundariesTest::desksShareNothing);
    }

    private static void put() {
        Checks.sentence("promise 2: the lowest n bytes of v", TextBoundariesTest::putTakesLowest);
        Checks.sentence("promise 2: the highest of them first", TextBoundariesTest::putHighestFirst);
        Checks.sentence("promise 2: come behind the text", TextBoundariesTest::putBehind);
        Checks.sentence("promise 2: bytes 0 .. 255 do not wrap", TextBoundariesTest::putEveryByte);
        Checks.sentence("promise 2: true for n 1 .. 8", TextBoundariesTest::putAllowedCounts);
        Checks.sentence("promise 2: false if n is not 1 .. 8", TextBoundariesTest::putRefusedCounts);
        Checks.sentence("promise 2: refused for n, the text stays", TextBoundariesTest::refusedCountKeepsText);
        Checks.sentence("promise 2: true up to 300", TextBoundariesTest::putUpTo300);
        Checks.sentence("promise 2: false if there would be more than 300", TextBoundariesTest::putBeyond300);
        Checks.sentence("promise 2: refused for 300, the text stays", TextBoundariesTest::refused300KeepsText);
        Checks.sentence("promise 2: refused, model and row stay", TextBoundariesTest::refusedPutKeepsModel);
        Checks.sentence("promise 2: taken, model and row stay", TextBoundariesTest::takenPutKeepsModel);
    }

    private static void readGood() {
        Checks.sentence("promise 3: how many places, fewest", TextBoundariesTest::fewestPlaces);
        Checks.sentence("promise 3: how many places, most", TextBoundariesTest::mostPlaces);
        Checks.sentence("promise 3: the longest text", TextBoundariesTest::longestModel);
        Checks.sentence("terms: any number of blanks", TextBoundariesTest::anyBlanks);
        Checks.sentence("terms: a row, any number of times", TextBoundariesTest::rowOfOne);
        Checks.sentence("terms: 12 brackets in one another", TextBoundariesTest::deepestBrackets);
        Checks.sentence("terms: brackets not in one another", TextBoundariesTest::manyBrackets);
    }

    private static void readWrong() {
        Checks.sentence("promise 3: no model goes on at place 0", TextBoundariesTest::wrongAtStart);
        Checks.sentence("promise 3: no model goes on at place 299", TextBoundariesTest::wrongAtLastByte);
        Checks.sentence("promise 3: the first such place", TextBoundariesTest::firstOfTwoWrong);
        Checks.sentence("promise 3: its length, without a byte", TextBoundariesTest::shortOfNothing);
        Checks.sentence("promise 3: its length, if too short", TextBoundariesTest::tooShort);
        Checks.sentence("promise 3: its length, with 300 bytes", TextBoundariesTest::shortOf300);
        Checks.sentence("terms: nothing before a model", TextBoundariesTest::nothingBefore);
        Checks.sentence("terms: nothing behind a model", TextBoundariesTest::nothingBehind);
        Checks.sentence("terms: a choice, once or more", TextBoundariesTest::choiceOfOne);
        Checks.sentence("terms: no bracket without a part", TextBoundariesTest::emptyBracket);
        Checks.sentence("terms: a choice or a row, not both", TextBoundariesTest::mixedSeparators);
        Checks.sentence("terms: one sign at most", TextBoundariesTest::twoSigns);
        Checks.sentence("terms: no blank before a sign", TextBoundariesTest::blankBeforeSign);
        Checks.sentence("terms: one letter a .. z", TextBoundariesTest::namesAtTheEdge);
        Checks.sentence("terms: a name is one letter", TextBoundariesTest::twoLetters);
        Checks.sentence("terms: blanks are 32 alone", TextBoundariesTest::otherBlanks);
    }

    private static void readTooMuch() {
        Checks.sentence("promise 3: the name that is too much", TextBoundariesTest::name61);
        Checks.sentence("promise 3: the name that is too much, at 299", TextBoundariesTest::name61At299);
        Checks.sentence("promise 3: the bracket that is too much", TextBoundariesTest::bracket13);
        Checks.sentence("promise 3: the bracket that is too much, at 299", TextBoundariesTest::bracket13At299);
        Checks.sentence("promise 3: what is too much must be able to stand", TextBoundariesTest::wrongAtTheLimit);
        Checks.sentence("promise 3: too much or wrong, the first", TextBoundariesTest::tooMuchOrWrong);
    }

    private static void readLeaves() {
        Checks.sentence("promise 3: has no bytes behind a model", TextBoundariesTest::noBytesBehindModel);
        Checks.sentence("promise 3: has no bytes behind a wrong text", TextBoundariesTest::noBytesBehindWrong);
        Checks.sentence("promise 3: has no bytes behind a short text", TextBoundariesTest::noBytesBehindShort);
        Checks.sentence("promise 3: has no bytes behind too much", TextBoundariesTest::noBytesBehindTooMuch);
        Checks.sentence("promise 3: then 300 bytes fit again", TextBoundariesTest::roomBehindRead);
        Checks.sentence("promise 3: a wrong text, no model", TextBoundariesTest::noModelBehindWrong);
        Checks.sentence("promise 3: a short text, no model", TextBoundariesTest::noModelBehindShort);
        Checks.sentence("promise 3: no text, no model", TextBoundariesTest::noModelBehindNoText);
        Checks.sentence("promise 3: too many names, no model", TextBoundariesTest::noModelBehindNames);
        Checks.sentence("promise 3: too many brackets, no model", TextBoundariesTest::noModelBehindBrackets);
        Checks.sentence("promise 3: nothing has come, with a model", TextBoundariesTest::nothingCameWithModel);
        Checks.sentence("promise 3: nothing has come, without one", TextBoundariesTest::nothingCameWithout);
        Checks.sentence("promise 3: a model of fewer places", TextBoundariesTest::smallerModel);
        Checks.sentence("terms: 512 calls", TextBoundariesTest::longestUse);
    }

    private static void dueRead(String text, int want) {
        Checks.due("read " + text, Checks.readText(new ModelDesk(), text), want);
    }

    private static long bytesOf(String text) {
        long v = 0;
        for (int i = 0; i < text.length(); i++) {
            v = v << 8 | text.charAt(i);
        }
        return v;
    }

    // ---- promise 1

    private static void newHasNoText() {
        Checks.due("read of a new object", new ModelDesk().read(), -1);
        ModelDesk desk = new ModelDesk();
        Checks.putText(desk, Checks.padded("(", "a)", MAX_BYTES));
        Checks.due("300 bytes are all of its text", desk.read(), 1);
    }

    private static void newHasNoModel() {
        Checks.dueWithoutModel("new: ", new ModelDesk());
        ModelDesk desk = new ModelDesk();
        Checks.putText(desk, "(a)?");
        Checks.dueWithoutModel("new, with a text not yet read: ", desk);
    }

    private static void desksShareNothing() {
        ModelDesk one = Checks.deskOf("(a,b)");
        ModelDesk other = new ModelDesk();
        Checks.due("a comes in one", one.come(0), true);
        Checks.putText(one, "(c|");
        Checks.dueWithoutModel("other: ", other);
        Checks.due("no text in the other", other.read(), -1);
        Checks.due("the other's own model", Checks.readText(other, "(z)*"), 1);
        Checks.due("one's model stays", one.first(), 1);
        Checks.due("one's names stay", one.name(0), 0);
        Checks.due("one's row stays", one.again(), 1);
        Checks.due("one's text stays", one.read(), -4);
    }

    // ---- promise 2

    private static void putTakesLowest() {
        String text = "(a|b|c)+";
        for (int n = 1; n <= 8; n++) {
            ModelDesk desk = new ModelDesk();
            long above = n < 8 ? 0x5D5D_5D5D_5D5D_5D5DL << 8 * n : 0L;
            desk.put(above | bytesOf(text.substring(0, n)), n);
            Checks.putText(desk, text.substring(n));
            Checks.due("the lowest " + n + " make a model", desk.read(), 3);
            Checks.due("its + is read with the lowest " + n, desk.next(2), 7);
        }
    }

    private static void putHighestFirst() {
        for (int n = 2; n <= 8; n++) {
            ModelDesk desk = new ModelDesk();
            desk.put(bytesOf(Checks.padded("(", "A", n)), n);
            Checks.due("A is the last of " + n, desk.read(), -n);
        }
    }

    private static void putBehind() {
        ModelDesk desk = new ModelDesk();
        desk.put('(', 1);
        desk.put(bytesOf("a,b"), 3);
        desk.put(bytesOf(",c,d,e)*"), 8);
        Checks.due("three puts, one text", desk.read(), 5);
        Checks.due("in their order", desk.name(4), 4);
    }

    private static void putEveryByte() {
        for (int c = 0; c < 256; c++) {
            ModelDesk desk = new ModelDesk();
            desk.put(c, 1);
            Checks.due("byte " + c + " at the start", desk.read(), c == '(' ? -2 : -1);
            desk.put('(' << 8 | c, 2);
            boolean goesOn = c == ' ' || c == '(' || c >= 'a' && c <= 'z';
            Checks.due("byte " + c + " behind a bracket", desk.read(), goesOn ? -3 : -2);
            desk.put(bytesOf("(a") << 8 | c, 3);
            Checks.due("byte " + c + " behind a name", desk.read(),
                c == ')' ? 1 : " |,?*+".indexOf(c) >= 0 ? -4 : -3);
        }
    }

    private static void putAllowedCounts() {
        for (int n = 1; n <= 8; n++) {
            ModelDesk desk = new ModelDesk();
            Checks.due("put of " + n, desk.put(bytesOf(Checks.padded("(", "", n)), n), true);
            Checks.due("so many came", desk.read(), -1 - n);
        }
    }

    private static void putRefusedCounts() {
        int[] refused = {0, -1, -7, -8, 9, 10, 16, 256, 257, 264, 65537, 1 << 31, (1 << 31) + 1,
            Integer.MAX_VALUE, Integer.MAX_VALUE - 299, Integer.MAX_VALUE - 7};
        for (int n : refused) {
            Checks.due("put of " + n, new ModelDesk().put(bytesOf("(((((((("), n), false);
        }
    }

    private static void refusedCountKeepsText() {
        for (int n : new int[] {0, -1, 9, Integer.MIN_VALUE, Integer.MAX_VALUE}) {
            ModelDesk empty = new ModelDesk();
            empty.put(bytesOf("(((((((("), n);
            Checks.due("no text behind a put of " + n, empty.read(), -1);
            ModelDesk desk = new ModelDesk();
            Checks.putText(desk, "(a");
            desk.put(bytesOf("))))))))"), n);
            Checks.putText(desk, ")+");
            Checks.due("the text round a put of " + n, desk.read(), 1);
        }
    }

    private static ModelDesk deskWithBytes(int bytes) {
        ModelDesk desk = new ModelDesk();
        Checks.putText(desk, Checks.padded("(", "", bytes));
        return desk;
    }

    private static void putUpTo300() {
        for (int n = 1; n <= 8; n++) {
            ModelDesk desk = deskWithBytes(MAX_BYTES - n);
            Checks.due("put of " + n + " up to 300", desk.put(bytesOf("        "), n), true);
            Checks.due("300 bytes, too short", desk.read(), -301);
        }
        ModelDesk single = new ModelDesk();
        for (int i = 1; i <= MAX_BYTES; i++) {
            Checks.due("byte " + i, single.put(i == 1 ? '(' : ' ', 1), true);
        }
    }

    private static void putBeyond300() {
        for (int n = 1; n <= 8; n++) {
            for (int bytes = MAX_BYTES + 1 - n; bytes <= MAX_BYTES; bytes++) {
                Checks.due(bytes + " and " + n, deskWithBytes(bytes).put(bytesOf("        "), n), false);
            }
        }
    }

    private static void refused300KeepsText() {
        for (int n = 1; n <= 8; n++) {
            ModelDesk full = new ModelDesk();
            Checks.putText(full, Checks.padded("(", "a)", MAX_BYTES));
            full.put(bytesOf("????????"), n);
            Checks.due("300 bytes behind a refused " + n, full.read(), 1);
            Checks.due("no ? came", full.isEmpty(), false);
        }
        ModelDesk desk = new ModelDesk();
        Checks.putText(desk, Checks.padded("(", "", 293));
        Checks.due("293 and 8", desk.put(bytesOf("AAAAAAAA"), 8), false);
        Checks.due("none of the 8 came, 7 do", desk.put(bytesOf("     a)"), 7), true);
        Checks.due("293 and 7 are a model", desk.read(), 1);
    }

    private static void dueRowStays(String when, ModelDesk desk) {
        Checks.due(when + "name", desk.name(1), 1);
        Checks.due(when + "first", desk.first(), 1);
        Checks.due(when + "next", desk.next(0), 2);
        Checks.due(when + "last", desk.last(), 2);
        Checks.due(when + "isEmpty", desk.isEmpty(), true);
        Checks.due(when + "isWhole", desk.isWhole(), false);
        Checks.due(when + "may", desk.may(), 2);
        Checks.due(when + "again", desk.again(), 1);
    }

    private static ModelDesk deskInARow() {
        ModelDesk desk = Checks.deskOf("(a,b)?");
        Checks.due("a comes", desk.come(0), true);
        return desk;
    }

    private static void refusedPutKeepsModel() {
        for (int n : new int[] {0, -1, 9}) {
            ModelDesk desk = deskInARow();
            desk.put(bytesOf("(((((((("), n);
            dueRowStays("behind a put of " + n + ": ", desk);
        }
        ModelDesk desk = deskInARow();
        Checks.putText(desk, Checks.padded("(", "", MAX_BYTES));
        desk.put(')', 1);
        dueRowStays("behind a put beyond 300: ", desk);
    }

    private static void takenPutKeepsModel() {
        ModelDesk desk = deskInARow();
        Checks.putText(desk, "(c|d|e)");
        dueRowStays("with a text not yet read: ", desk);
    }

    // ---- promise 3: a model

    private static void fewestPlaces() {
        dueRead("(a)", 1);
        dueRead("(z)", 1);
    }

    private static void mostPlaces() {
        dueRead(Checks.bracketOf(59, ","), 59);
        dueRead(Checks.bracketOf(60, ","), 60);
        dueRead(Checks.bracketOf(60, "|"), 60);
        dueRead("(" + Checks.repeated("(a)", ",", 60) + ")", 60);
        dueRead("(" + Checks.repeated("(a|b)", ",", 30) + ")*", 60);
    }

    private static void longestModel() {
        dueRead(Checks.padded("(", "a)", MAX_BYTES), 1);
        dueRead(Checks.padded("(a", ")*", MAX_BYTES), 1);
        dueRead("(" + Checks.repeated("(a*)", ",", 59) + ",b+)*", 60);
        String full = "(" + Checks.repeated("(a)", ",", 59);
        dueRead(Checks.padded(full + ",", "z?)+", MAX_BYTES), 60);
    }

    private static void anyBlanks() {
        dueRead("(a|b)", 2);
        dueRead("( a | b )", 2);
        dueRead("(   a   ,   b   )", 2);
        dueRead("( ( a ) )", 1);
        dueRead("( (a)? , b* )", 2);
        for (String[] round : new String[][] {{"(", "a,b)"}, {"(a", ",b)"}, {"(a,", "b)"}, {"(a,b", ")"}}) {
            dueRead(Checks.padded(round[0], round[1], MAX_BYTES), 2);
        }
    }

    private static void rowOfOne() {
        dueRead("(a)", 1);
        dueRead("((a))", 1);
        dueRead("(a,b)", 2);
        Checks.due("a row of one", Checks.deskOf("((a)*)").next(0), 1);
    }

    private static void deepestBrackets() {
        dueRead("(".repeat(12) + "a" + ")".repeat(12), 1);
        dueRead("(".repeat(12) + "a|b" + ")?".repeat(12), 2);
        dueRead("(a,".repeat(12) + "b" + ")+".repeat(12), 13);
    }

    private static void manyBrackets() {
        String deep = "(".repeat(11) + "a" + ")".repeat(11);
        dueRead("(" + Checks.repeated(deep, ",", 12) + ")", 12);
        dueRead("(" + Checks.repeated("(a)", "|", 13) + ")", 13);
    }

    // ---- promise 3: a wrong text, a text too short

    private static void wrongAtStart() {
        for (String text : new String[] {"a", ")", " ", "?", "|", "\u0000", "\u00ff", "a)", " (a)"}) {
            dueRead(text, -1);
        }
    }

    private static void wrongAtLastByte() {
        dueRead(Checks.padded("(", "A", MAX_BYTES), -300);
        dueRead(Checks.padded("(", "a)b", MAX_BYTES), -300);
        dueRead(Checks.padded("(a", "?", MAX_BYTES), -300);
    }

    private static void firstOfTwoWrong() {
        dueRead("(A,B)", -2);
        dueRead("(a,B,C)", -4);
        dueRead("A(a)B", -1);
        dueRead("(a??)B", -4);
        dueRead("(a|b,c|d)", -5);
    }

    private static void shortOfNothing() {
        Checks.due("read of no text", new ModelDesk().read(), -1);
    }

    private static void tooShort() {
        String whole = "( a? , ( b | c )* )";
        for (int bytes = 1; bytes < whole.length(); bytes++) {
            dueRead(whole.substring(0, bytes), -1 - bytes);
        }
        dueRead("(".repeat(12), -13);
        dueRead("(" + Checks.repeated("a", "|", 60) + "|", -122);
    }

    private static void shortOf300() {
        dueRead(Checks.padded("(", "", MAX_BYTES), -301);
        dueRead(Checks.padded("(a", ",", MAX_BYTES), -301);
        dueRead(Checks.padded("((", "a)", MAX_BYTES), -301);
    }

    private static void nothingBefore() {
        dueRead(" (a)", -1);
        dueRead("a(a)", -1);
        dueRead("?(a)", -1);
    }

    private static void nothingBehind() {
        for (String behind : new String[] {" ", "a", ")", "(", ",", "|", "\u0000"}) {
            dueRead("(a)" + behind, -4);
            dueRead("(a)*" + behind, -5);
        }
        dueRead("(a)(b)", -4);
        dueRead("(a),(b)", -4);
    }

    private static void choiceOfOne() {
        dueRead("(a|)", -4);
        dueRead("(a| )", -5);
        dueRead("(|a)", -2);
        dueRead("(a||b)", -4);
        dueRead("(a|b)", 2);
    }

    private static void emptyBracket() {
        dueRead("()", -2);
        dueRead("(  )", -4);
        dueRead("(a,())", -5);
        dueRead("(,a)", -2);
        dueRead("(a,)", -4);
    }

    private static void mixedSeparators() {
        dueRead("(a|b,c)", -5);
        dueRead("(a,b|c)", -5);
        dueRead("((a|b),c|d)", -9);
        dueRead("(a,(b|c)|d)", -9);
        dueRead("((a,b)|(c,d))", 4);
        dueRead("((a|b),(c|d))", 4);
    }

    private static void twoSigns() {
        for (String signs : new String[] {"??", "?*", "?+", "*?", "**", "*+", "+?", "+*", "++"}) {
            dueRead("(a" + signs + ")", -4);
            dueRead("(a)" + signs, -5);
            dueRead("((a)" + signs + ")", -6);
        }
    }

    private static void blankBeforeSign() {
        dueRead("(a ?)", -4);
        dueRead("((a) *)", -6);
        dueRead("(a) +", -4);
        dueRead("(a? ?)", -5);
    }

    private static void namesAtTheEdge() {
        dueRead("(a|z)", 2);
        for (char c : new char[] {'`', '{', 'A', 'Z', '0', '_', '\u00e1', '\u00fa'}) {
            dueRead("(" + c + ")", -2);
        }
    }

    private static void twoLetters() {
        dueRead("(ab)", -3);
        dueRead("(a b)", -4);
        dueRead("(a?b)", -4);
        dueRead("(a(b))", -3);
        dueRead("((a)b)", -5);
    }

    private static void otherBlanks() {
        for (char c : new char[] {'\t', '\n', '\r', '\u0000', '\u001f', '!', '\u00a0'}) {
            dueRead("(" + c + "a)", -2);
            dueRead("(a" + c + ")", -3);
        }
    }

    // ---- promise 3: too much

    private static void name61() {
        dueRead(Checks.bracketOf(61, ","), -1121);
        dueRead(Checks.bracketOf(61, "|"), -1121);
        dueRead(Checks.bracketOf(62, "|"), -1121);
        dueRead("(" + Checks.repeated("a", "|", 60) + "|b", -1121);
        dueRead("(" + Checks.repeated("a", ",", 60) + ",((b)))", -1123);
        dueRead("(" + Checks.repeated("(a)", ",", 61) + ")", -1242);
    }

    private static void name61At299() {
        String sixty = "(" + Checks.repeated("a", ",", 60) + ",";
        dueRead(Checks.padded(sixty, "b", MAX_BYTES), -1299);
        dueRead(Checks.padded(sixty, "b)", MAX_BYTES), -1298);
    }

    private static void bracket13() {
        dueRead("(".repeat(13), -1012);
        dueRead("(".repeat(13) + "a" + ")".repeat(13), -1012);
        dueRead("(".repeat(14) + "a" + ")".repeat(14), -1012);
        dueRead("( ".repeat(13), -1024);
        dueRead("(a,".repeat(13) + "a", -1036);
        dueRead("((a),((b)," + "(".repeat(11), -1020);
    }

    private static void bracket13At299() {
        dueRead(Checks.padded("(".repeat(12), "(", MAX_BYTES), -1299);
        dueRead(Checks.padded("(".repeat(12), "(a", MAX_BYTES), -1298);
    }

    private static void wrongAtTheLimit() {
        dueRead("(".repeat(12) + "a(", -14);
        dueRead("(".repeat(12) + "A", -13);
        dueRead("(" + Checks.repeated("a", ",", 60) + "b", -121);
        dueRead("(" + Checks.repeated("a", ",", 60) + ")b", -122);
        dueRead("(" + Checks.repeated("a", ",", 60) + ",A", -122);
    }

    private static void tooMuchOrWrong() {
        dueRead("(".repeat(13) + "A", -1012);
        dueRead("(".repeat(11) + "A" + "(((", -12);
        dueRead("(" + Checks.repeated("a", ",", 61) + "A", -1121);
        dueRead("(" + Checks.repeated("a", ",", 61) + "|", -1121);
        dueRead("(" + Checks.repeated("a", ",", 58) + "|" + Checks.repeated("a", ",", 9), -117);
        dueRead("(" + Checks.repeated("a", ",", 60) + "," + "(".repeat(13), -1132);
    }

    // ---- promise 3: what read leaves

    private static void dueNoBytes(String text) {
        ModelDesk desk = new ModelDesk();
        Checks.readText(desk, text);
        Checks.due("read at once behind " + text, desk.read(), -1);
        Checks.readText(desk, text);
        Checks.due("another text behind " + text, Checks.readText(desk, "(b)"), 1);
    }

    private static void noBytesBehindModel() {
        dueNoBytes("(a,b)");
    }

    private static void noBytesBehindWrong() {
        dueNoBytes("(a,B)");
        dueNoBytes("A");
    }

    private static void noBytesBehindShort() {
        dueNoBytes("(a,");
    }

    private static void noBytesBehindTooMuch() {
        dueNoBytes("(".repeat(13));
        dueNoBytes(Checks.bracketOf(61, ","));
    }

    private static void roomBehindRead() {
        String[] texts = {Checks.padded("(", "a)", MAX_BYTES), Checks.padded("(A", "a)", MAX_BYTES),
            Checks.padded("(", "", MAX_BYTES), Checks.padded("(".repeat(13), "", MAX_BYTES)};
        ModelDesk desk = new ModelDesk();
        for (String text : texts) {
            Checks.readText(desk, text);
            Checks.due("300 bytes behind 300", Checks.readText(desk, texts[0]), 1);
        }
    }

    private static void dueNoModelBehind(String text) {
        Checks.dueWithoutModel("behind " + text + ": ", Checks.deskBehind("(a,b)*", "", text));
        Checks.dueWithoutModel("in a row behind " + text + ": ", Checks.deskBehind("(a|a)*", "aa", text));
    }

    private static void noModelBehindWrong() {
        dueNoModelBehind("(a)?A");
        dueNoModelBehind("(a|b)* ");
        dueNoModelBehind("A");
    }

    private static void noModelBehindShort() {
        dueNoModelBehind("(a?");
        dueNoModelBehind("((a|a)*");
    }

    private static void noModelBehindNoText() {
        dueNoModelBehind("");
    }

    private static void noModelBehindNames() {
        dueNoModelBehind(Checks.bracketOf(61, "|") + "*");
    }

    private static void noModelBehindBrackets() {
        dueNoModelBehind("(a?," + "(".repeat(12));
    }

    private static void nothingCameWithModel() {
        for (String text : new String[] {"(a,b)*", "(c,a,b)", "(a)?"}) {
            ModelDesk desk = Checks.deskOf("(a,b)*");
            Checks.due("aba come", Checks.comeAll(desk, "aba"), true);
            Checks.readText(desk, text);
            Checks.due("may at the start of " + text, desk.may(), 1 << desk.name(0));
            Checks.due("isWhole at the start of " + text, desk.isWhole(), desk.isEmpty());
            Checks.due("again at the start of " + text, desk.again(), 0);
        }
    }

    private static void nothingCameWithout() {
        for (String text : new String[] {"", "A", "(a", "(".repeat(13)}) {
            ModelDesk desk = Checks.deskBehind("(a)*", "aaa", text);
            Checks.due("again behind " + text, desk.again(), 0);
        }
    }

    private static void smallerModel() {
        ModelDesk desk = Checks.deskOf(Checks.bracketOf(60, ",") + "*");
        Checks.due("a smaller model", Checks.readText(desk, "(b,c)"), 2);
        Checks.due("first", desk.first(), 1);
        Checks.due("last", desk.last(), 2);
        Checks.due("next(0)", desk.next(0), 2);
        Checks.due("next(1)", desk.next(1), 0);
        Checks.due("next(2)", desk.next(2), 0);
        Checks.due("name(2)", desk.name(2), -1);
        Checks.due("isEmpty", desk.isEmpty(), false);
        Checks.due("competing", desk.competing(), 0);
    }

    private static void longestUse() {
        ModelDesk desk = new ModelDesk();
        for (int call = 1; call <= 511; call++) {
            Checks.due("put " + call, desk.put(call == 1 ? '(' : call == 300 ? 'a' : ' ', 1), call <= MAX_BYTES);
        }
        Checks.due("read, the 512th call", desk.read(), -301);
        ModelDesk other = new ModelDesk();
        for (int call = 1; call <= 512; call += 2) {
            other.put(bytesOf("(a,b)"), 5);
            Checks.due("read, call " + (call + 1), other.read(), 2);
        }
    }
}
