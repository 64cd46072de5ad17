/** The boundary cases of a model (promises 4 to 10), each sentence of the document alone. */
public final class ModelBoundariesTest {
    private static final String WRONG_TEXT = "(a,b";
    private static final int[] NO_PLACES = {-1, -2, -59, -60, -63, -64, 60, 61, 63, 64, 65, 127, 128, 256, 300, 1 << 16,
        Integer.MIN_VALUE, Integer.MIN_VALUE + 1, Integer.MAX_VALUE};

    private ModelBoundariesTest() {
    }

    public static void main(String[] args) {
        Checks.only(args);
        clearAndCompeting();
        emptyFirstAndLast();
        nextAndName();
        Checks.end();
    }

    private static void clearAndCompeting() {
        Checks.sentence("promise 4: clear, if none compete", ModelBoundariesTest::clear);
        Checks.sentence("promise 4: not clear, both first", ModelBoundariesTest::unclearFirst);
        Checks.sentence("promise 4: not clear, both next behind one", ModelBoundariesTest::unclearNext);
        Checks.sentence("promise 4: false without a model", ModelBoundariesTest::isClearWithout);
        Checks.sentence("promise 5: bit 0 for a, .., 25 for z", ModelBoundariesTest::competingBits);
        Checks.sentence("promise 5: none and all compete", ModelBoundariesTest::competingNoneAndAll);
        Checks.sentence("promise 5: the first and the last place", ModelBoundariesTest::competingFarPlaces);
        Checks.sentence("promise 5: next behind the last place alone", ModelBoundariesTest::competingBehindLast);
        Checks.sentence("promise 5: a place does not compete with itself", ModelBoundariesTest::competingWithItself);
        Checks.sentence("promise 5: 0 without a model", ModelBoundariesTest::competingWithout);
    }

    private static void emptyFirstAndLast() {
        Checks.sentence("promise 6: the empty row is allowed", ModelBoundariesTest::emptyAllowed);
        Checks.sentence("promise 6: the empty row is not allowed", ModelBoundariesTest::emptyNotAllowed);
        Checks.sentence("promise 6: no row is allowed without a model", ModelBoundariesTest::isEmptyWithout);
        Checks.sentence("promise 7: one place and all as bits", ModelBoundariesTest::firstBits);
        Checks.sentence("promise 7: behind what can be empty", ModelBoundariesTest::firstBehindEmpty);
        Checks.sentence("promise 7: 0 without a model", ModelBoundariesTest::firstWithout);
        Checks.sentence("promise 9: one place and all as bits", ModelBoundariesTest::lastBits);
        Checks.sentence("promise 9: before what can be empty", ModelBoundariesTest::lastBeforeEmpty);
        Checks.sentence("promise 9: no row ends without a model", ModelBoundariesTest::lastWithout);
    }

    private static void nextAndName() {
        Checks.sentence("promise 8: none behind the last", ModelBoundariesTest::nextOfLast);
        Checks.sentence("promise 8: the last place and the first", ModelBoundariesTest::nextRoundAbout);
        Checks.sentence("promise 8: a place behind itself", ModelBoundariesTest::nextIsItself);
        Checks.sentence("promise 8: all 60 behind each", ModelBoundariesTest::nextIsAll);
        Checks.sentence("promise 8: 0 if there is none such", ModelBoundariesTest::nextOfNoPlace);
        Checks.sentence("promise 8: none such without a model", ModelBoundariesTest::nextWithout);
        Checks.sentence("promise 10: 0 (a) .. 25 (z)", ModelBoundariesTest::nameOfEach);
        Checks.sentence("promise 10: the first and the last place", ModelBoundariesTest::nameAtTheEdge);
        Checks.sentence("promise 10: -1 if there is none such", ModelBoundariesTest::nameOfNoPlace);
        Checks.sentence("promise 10: none such without a model", ModelBoundariesTest::nameWithout);
    }

    private static ModelDesk[] without(String model) {
        return new ModelDesk[] {new ModelDesk(), Checks.deskBehind(model, "", ""),
            Checks.deskBehind(model, "", "A"), Checks.deskBehind(model, "", WRONG_TEXT),
            Checks.deskBehind(model, "", "(a|a)*A"), Checks.deskBehind(model, "", "(".repeat(13)),
            Checks.deskBehind(model, "", Checks.bracketOf(61, "|"))};
    }

    /** Sixty places: all named a but the last, which is z. */
    private static String sixty(String separator) {
        return "(" + Checks.repeated("a", separator, 59) + separator + "z)";
    }

    // ---- promise 4

    private static void clear() {
        for (String text : new String[] {"(a)", "(a,a)", "(a,a)*", "((b,a)|(c,a))", Checks.bracketOf(60, ",")}) {
            Checks.due("isClear of " + text, Checks.deskOf(text).isClear(), true);
        }
    }

    private static void unclearFirst() {
        for (String text : new String[] {"(a|a)", "(z|z)", "(a?,a)", "((a,b)|(a,c))", Checks.bracketOf(60, "|")}) {
            Checks.due("isClear of " + text, Checks.deskOf(text).isClear(), false);
        }
    }

    private static void unclearNext() {
        for (String text : new String[] {"(b,(a|a))", "(a+,a)", "(b,a?,a)", "(b,(a,b)?,a)", "(b,z*,z)"}) {
            Checks.due("isClear of " + text, Checks.deskOf(text).isClear(), false);
        }
    }

    private static void isClearWithout() {
        for (ModelDesk desk : without("(a)")) {
            Checks.due("isClear", desk.isClear(), false);
        }
    }

    // ---- promise 5

    private static void competingBits() {
        for (int name = 0; name < 26; name++) {
            char c = (char) ('a' + name);
            char other = c == 'a' ? 'z' : 'a';
            String text = "(" + other + ",(" + c + "|" + c + "))";
            Checks.due("competing in " + text, Checks.deskOf(text).competing(), 1 << name);
        }
    }

    private static String alphabet(String separator, int times) {
        StringBuilder all = new StringBuilder("(");
        for (int i = 0; i < 26 * times; i++) {
            all.append(i == 0 ? "" : separator).append((char) ('a' + i % 26));
        }
        return all.append(')').toString();
    }

    private static void competingNoneAndAll() {
        Checks.due("competing in 26 names", Checks.deskOf(alphabet("|", 1) + "*").competing(), 0);
        Checks.due("competing in twice 26", Checks.deskOf(alphabet("|", 2)).competing(), (1 << 26) - 1);
        Checks.due("competing in a row", Checks.deskOf(alphabet(",", 2)).competing(), 0);
    }

    private static void competingFarPlaces() {
        String between = Checks.repeated("b", ",", 58);
        String text = "(a|(" + between + ")|a)";
        Checks.due("places 0 and 59 in " + text, Checks.deskOf(text).competing(), 1);
        String end = "(" + Checks.repeated("b", ",", 58) + ",(z|z))";
        Checks.due("places 58 and 59 in " + end, Checks.deskOf(end).competing(), 1 << 25);
        String start = "((z|z)," + Checks.repeated("b", ",", 58) + ")";
        Checks.due("places 0 and 1 in " + start, Checks.deskOf(start).competing(), 1 << 25);
    }

    private static void competingBehindLast() {
        String text = "(c,(a,(a," + Checks.repeated("b", ",", 56) + ",z)+)+)";
        ModelDesk desk = Checks.deskOf(text);
        Checks.due("next(59)", desk.next(59), 6);
        Checks.due("competing in " + text, desk.competing(), 1);
    }

    private static void competingWithItself() {
        for (String text : new String[] {"(a)*", "(a+)+", "((a*)*)*", "(b,a*)", "((a|b)+)*"}) {
            Checks.due("competing in " + text, Checks.deskOf(text).competing(), 0);
        }
    }

    private static void competingWithout() {
        for (ModelDesk desk : without("(a|a)*")) {
            Checks.due("competing", desk.competing(), 0);
        }
    }

    // ---- promise 6

    private static void emptyAllowed() {
        String all = "(" + Checks.repeated("a?", ",", 60) + ")";
        for (String text : new String[] {"(a)?", "(a)*", "(a?)", "(a*)+", "(a|b?)", "(a?|b)", "(a?,b*)", all}) {
            Checks.due("isEmpty of " + text, Checks.deskOf(text).isEmpty(), true);
        }
    }

    private static void emptyNotAllowed() {
        String all = "(" + Checks.repeated("a?", ",", 59) + ",a)";
        for (String text : new String[] {"(a)", "(a)+", "(a+)", "(a|b)", "(a?,b)", "(a,b?)", all}) {
            Checks.due("isEmpty of " + text, Checks.deskOf(text).isEmpty(), false);
        }
    }

    private static void isEmptyWithout() {
        for (ModelDesk desk : without("(a)?")) {
            Checks.due("isEmpty", desk.isEmpty(), false);
        }
    }

    // ---- promise 7

    private static void firstBits() {
        Checks.due("first of one", Checks.deskOf("(a)").first(), 1);
        Checks.due("first of a row of 60", Checks.deskOf(sixty(",")).first(), 1);
        Checks.due("first of a choice of 60", Checks.deskOf(sixty("|")).first(), (1L << 60) - 1);
        String text = "((" + Checks.repeated("a", ",", 59) + ")|z)";
        Checks.due("first of " + text, Checks.deskOf(text).first(), 1L << 59 | 1);
    }

    private static void firstBehindEmpty() {
        String all = "(" + Checks.repeated("a?", ",", 60) + ")";
        Checks.due("all can be empty", Checks.deskOf(all).first(), (1L << 60) - 1);
        Checks.due("the second cannot", Checks.deskOf("(a*,b,c)").first(), 3);
        Checks.due("the first cannot", Checks.deskOf("(a+,b,c)").first(), 1);
        Checks.due("a bracket behind it", Checks.deskOf("(a?,(b,c))").first(), 3);
        Checks.due("a bracket that can", Checks.deskOf("((a,b)?,(c,d))").first(), 5);
    }

    private static void firstWithout() {
        for (ModelDesk desk : without("(a)")) {
            Checks.due("first", desk.first(), 0);
        }
    }

    // ---- promise 8

    private static void nextOfLast() {
        Checks.due("next(0) of one", Checks.deskOf("(a)").next(0), 0);
        Checks.due("next(59) of 60", Checks.deskOf(sixty(",")).next(59), 0);
        Checks.due("next(59) with ?", Checks.deskOf(sixty(",") + "?").next(59), 0);
    }

    private static void nextRoundAbout() {
        ModelDesk desk = Checks.deskOf(sixty(",") + "+");
        for (int p = 0; p < 59; p++) {
            Checks.due("next(" + p + ") of 60", desk.next(p), 1L << p + 1);
        }
        Checks.due("next(59) with +", desk.next(59), 1);
    }

    private static void nextIsItself() {
        Checks.due("next(0) in (a)*", Checks.deskOf("(a)*").next(0), 1);
        Checks.due("next(0) in (a+)", Checks.deskOf("(a+)").next(0), 1);
        Checks.due("next(0) in (a?)", Checks.deskOf("(a?)").next(0), 0);
        String text = "(" + Checks.repeated("a", ",", 59) + ",z*)";
        Checks.due("next(59) in " + text, Checks.deskOf(text).next(59), 1L << 59);
    }

    private static void nextIsAll() {
        ModelDesk desk = Checks.deskOf(sixty("|") + "*");
        for (int p = 0; p < 60; p++) {
            Checks.due("next(" + p + ") of all", desk.next(p), (1L << 60) - 1);
        }
    }

    private static void nextOfNoPlace() {
        ModelDesk full = Checks.deskOf(sixty("|") + "*");
        for (int place : NO_PLACES) {
            Checks.due("next(" + place + ") of 60", full.next(place), 0);
        }
        ModelDesk small = full;
        Checks.due("a smaller model in the same desk", Checks.readText(small, "(a|b)*"), 2);
        for (int place = 2; place < 70; place++) {
            Checks.due("next(" + place + ") of 2", small.next(place), 0);
        }
        Checks.due("next(-1) of 2", small.next(-1), 0);
    }

    private static void nextWithout() {
        for (ModelDesk desk : without("(a,b)*")) {
            for (int place = -1; place <= 60; place++) {
                Checks.due("next(" + place + ")", desk.next(place), 0);
            }
        }
    }

    // ---- promise 9

    private static void lastBits() {
        Checks.due("last of one", Checks.deskOf("(a)").last(), 1);
        Checks.due("last of a row of 60", Checks.deskOf(sixty(",")).last(), 1L << 59);
        Checks.due("last of a choice of 60", Checks.deskOf(sixty("|")).last(), (1L << 60) - 1);
    }

    private static void lastBeforeEmpty() {
        String all = "(" + Checks.repeated("a?", ",", 60) + ")";
        Checks.due("all can be empty", Checks.deskOf(all).last(), (1L << 60) - 1);
        Checks.due("the last but one cannot", Checks.deskOf("(a,b,c*)").last(), 6);
        Checks.due("the last cannot", Checks.deskOf("(a,b,c+)").last(), 4);
        Checks.due("a bracket before it", Checks.deskOf("((a,b),c?)").last(), 6);
        Checks.due("a bracket that can", Checks.deskOf("((a,b),(c,d)?)").last(), 10);
        Checks.due("brackets in a choice", Checks.deskOf("((a,b)|(c,d))").last(), 10);
    }

    private static void lastWithout() {
        for (ModelDesk desk : without("(a)")) {
            Checks.due("last", desk.last(), 0);
        }
    }

    // ---- promise 10

    private static void nameOfEach() {
        ModelDesk desk = Checks.deskOf(alphabet(",", 1));
        for (int p = 0; p < 26; p++) {
            Checks.due("name(" + p + ")", desk.name(p), p);
        }
    }

    private static void nameAtTheEdge() {
        ModelDesk desk = Checks.deskOf(sixty("|"));
        Checks.due("name(0)", desk.name(0), 0);
        Checks.due("name(58)", desk.name(58), 0);
        Checks.due("name(59)", desk.name(59), 25);
    }

    private static void nameOfNoPlace() {
        ModelDesk full = Checks.deskOf(sixty("|"));
        for (int place : NO_PLACES) {
            Checks.due("name(" + place + ") of 60", full.name(place), -1);
        }
        ModelDesk small = full;
        Checks.due("a smaller model in the same desk", Checks.readText(small, "(b,c)"), 2);
        for (int place = 2; place < 70; place++) {
            Checks.due("name(" + place + ") of 2", small.name(place), -1);
        }
        Checks.due("name(-1) of 2", small.name(-1), -1);
    }

    private static void nameWithout() {
        for (ModelDesk desk : without("(a,b)")) {
            for (int place = -1; place <= 60; place++) {
                Checks.due("name(" + place + ")", desk.name(place), -1);
            }
        }
    }
}
