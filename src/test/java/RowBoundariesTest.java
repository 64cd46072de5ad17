/** The boundary cases of a row that comes (promises 11 to 14), each sentence of the document alone. */
public final class RowBoundariesTest {
    private static final int ALL_NAMES = (1 << 26) - 1;
    private static final int[] NO_NAMES = {-1, -2, -26, -32, -64, 26, 27, 31, 32, 33, 57, 64, 65, 97, 122, 256, 1 << 16,
        Integer.MIN_VALUE, Integer.MIN_VALUE + 1, Integer.MAX_VALUE};

    private RowBoundariesTest() {
    }

    public static void main(String[] args) {
        Checks.only(args);
        come();
        isWhole();
        may();
        again();
        Checks.end();
    }

    private static void come() {
        Checks.sentence("promise 11: a name, 0 (a) .. 25 (z)", RowBoundariesTest::everyNameComes);
        Checks.sentence("promise 11: false for what is no name", RowBoundariesTest::noNameComes);
        Checks.sentence("promise 11: true, if an allowed row begins so", RowBoundariesTest::beginningsCome);
        Checks.sentence("promise 11: behind those that came", RowBoundariesTest::comesBehindTheOthers);
        Checks.sentence("promise 11: false at the start", RowBoundariesTest::refusedAtStart);
        Checks.sentence("promise 11: false in a row", RowBoundariesTest::refusedInside);
        Checks.sentence("promise 11: false behind a whole row", RowBoundariesTest::refusedAtEnd);
        Checks.sentence("promise 11: a name of the model, but not there", RowBoundariesTest::refusedElsewhere);
        Checks.sentence("promise 11: it has not come", RowBoundariesTest::refusedHasNotCome);
        Checks.sentence("promise 11: refused, model and text stay", RowBoundariesTest::refusedKeepsModelAndText);
        Checks.sentence("promise 11: false without a model", RowBoundariesTest::comeWithout);
        Checks.sentence("promise 11: as long a row as calls allow", RowBoundariesTest::longestRow);
        Checks.sentence("promise 11: 60 places in a row", RowBoundariesTest::sixtyInARow);
    }

    private static void isWhole() {
        Checks.sentence("promise 12: nothing came, the empty row is allowed", RowBoundariesTest::wholeEmpty);
        Checks.sentence("promise 12: nothing came, it is not allowed", RowBoundariesTest::notWholeEmpty);
        Checks.sentence("promise 12: the shortest and one less", RowBoundariesTest::wholeShortest);
        Checks.sentence("promise 12: a refused name does not change it", RowBoundariesTest::wholeBehindRefusal);
        Checks.sentence("promise 12: no row is allowed without a model", RowBoundariesTest::isWholeWithout);
    }

    private static void may() {
        Checks.sentence("promise 13: one name and all as bits", RowBoundariesTest::mayBits);
        Checks.sentence("promise 13: now, not at first", RowBoundariesTest::mayNow);
        Checks.sentence("promise 13: none can come", RowBoundariesTest::mayNone);
        Checks.sentence("promise 13: what may come does, all else not", RowBoundariesTest::mayTellsCome);
        Checks.sentence("promise 13: a refused name does not change it", RowBoundariesTest::mayBehindRefusal);
        Checks.sentence("promise 13: none can come without a model", RowBoundariesTest::mayWithout);
    }

    private static void again() {
        Checks.sentence("promise 14: none had come", RowBoundariesTest::againOfNone);
        Checks.sentence("promise 14: how many names had", RowBoundariesTest::againCounts);
        Checks.sentence("promise 14: refused names had not", RowBoundariesTest::againWithoutRefused);
        Checks.sentence("promise 14: nothing has come", RowBoundariesTest::nothingCameBehindAgain);
        Checks.sentence("promise 14: model and text stay", RowBoundariesTest::againKeepsModelAndText);
        Checks.sentence("promise 14: none had without a model", RowBoundariesTest::againWithout);
        Checks.sentence("promise 14: as many as calls allow", RowBoundariesTest::againOfMost);
    }

    private static String alphabet() {
        StringBuilder all = new StringBuilder("(a");
        for (char c = 'b'; c <= 'z'; c++) {
            all.append('|').append(c);
        }
        return all.append(')').toString();
    }

    private static ModelDesk deskBehindRow(String model, String row) {
        ModelDesk desk = Checks.deskOf(model);
        Checks.due(row + " comes in " + model, Checks.comeAll(desk, row), true);
        return desk;
    }

    private static ModelDesk[] without() {
        return new ModelDesk[] {new ModelDesk(), Checks.deskBehind("(a)*", "", ""),
            Checks.deskBehind("(a)*", "aa", "A"), Checks.deskBehind("(a)*", "a", "(a)*A"),
            Checks.deskBehind("(a)*", "aaa", "(a"), Checks.deskBehind("(a)*", "a", "(".repeat(13)),
            Checks.deskBehind("(a)*", "a", Checks.bracketOf(61, "|"))};
    }

    // ---- promise 11

    private static void everyNameComes() {
        ModelDesk once = Checks.deskOf(alphabet());
        ModelDesk often = Checks.deskOf(alphabet() + "*");
        for (int name = 0; name < 26; name++) {
            Checks.due("come(" + name + ") at first", once.come(name), true);
            once.again();
            Checks.due("come(" + name + ") in a row", often.come(name), true);
        }
    }

    private static void noNameComes() {
        ModelDesk desk = Checks.deskOf(alphabet() + "*");
        for (int name : NO_NAMES) {
            Checks.due("come(" + name + ") at first", desk.come(name), false);
        }
        desk.come(25);
        for (int name : NO_NAMES) {
            Checks.due("come(" + name + ") in a row", desk.come(name), false);
        }
    }

    private static void beginningsCome() {
        ModelDesk desk = Checks.deskOf("(a,b,c)");
        Checks.due("a", desk.come(0), true);
        Checks.due("ab", desk.come(1), true);
        Checks.due("abc", desk.come(2), true);
        Checks.due("round about", Checks.comeAll(Checks.deskOf("(a,b)*"), "ababa"), true);
        Checks.due("past what can be empty", Checks.deskOf("(a?,b*,z)").come(25), true);
    }

    private static void comesBehindTheOthers() {
        String model = "((a,b)|(a,c)|(d,e))";
        Checks.due("ab", Checks.comeAll(Checks.deskOf(model), "ab"), true);
        Checks.due("ac", Checks.comeAll(Checks.deskOf(model), "ac"), true);
        Checks.due("ae", Checks.comeAll(Checks.deskOf(model), "ae"), false);
        Checks.due("aab, not a beginning", Checks.comeAll(Checks.deskOf("((a,a,c)|(a,b))"), "aab"), false);
    }

    private static void refusedAtStart() {
        ModelDesk desk = Checks.deskOf("(b,a)");
        for (int name = 0; name < 26; name++) {
            if (name != 1) {
                Checks.due("come(" + name + ") at first", desk.come(name), false);
            }
        }
    }

    private static void refusedInside() {
        ModelDesk desk = deskBehindRow("(a,b,c)", "a");
        for (int name = 0; name < 26; name++) {
            if (name != 1) {
                Checks.due("come(" + name + ") behind a", desk.come(name), false);
            }
        }
    }

    private static void refusedAtEnd() {
        ModelDesk desk = deskBehindRow("(a,b)", "ab");
        for (int name = 0; name < 26; name++) {
            Checks.due("come(" + name + ") behind ab", desk.come(name), false);
        }
        Checks.due("a second a in (a)?", deskBehindRow("(a)?", "a").come(0), false);
    }

    private static void refusedElsewhere() {
        Checks.due("c, left out by a choice", deskBehindRow("((a,b)|(c,d))", "a").come(2), false);
        Checks.due("d, of the other part", deskBehindRow("((a,b)|(c,d))", "a").come(3), false);
        Checks.due("a once more", deskBehindRow("(a,b*)", "ab").come(0), false);
    }

    private static void dueHasNotCome(ModelDesk desk, int name) {
        Checks.due("come(" + name + ")", desk.come(name), false);
        Checks.due("isWhole behind it", desk.isWhole(), true);
        Checks.due("may behind it", desk.may(), 4);
    }

    private static void refusedHasNotCome() {
        for (int name : new int[] {0, 1, 3, 25, -1, 26, 34, 66, Integer.MIN_VALUE, Integer.MAX_VALUE}) {
            ModelDesk desk = deskBehindRow("(a,b,(c,d)?)", "ab");
            dueHasNotCome(desk, name);
            dueHasNotCome(desk, name);
            Checks.due("cd come behind it", Checks.comeAll(desk, "cd"), true);
            Checks.due("four had come", desk.again(), 4);
        }
    }

    private static void refusedKeepsModelAndText() {
        ModelDesk desk = Checks.deskOf("(a,b)*");
        Checks.putText(desk, "(c,d");
        for (int name : new int[] {1, 26, -1}) {
            Checks.due("come(" + name + ")", desk.come(name), false);
            Checks.due("first", desk.first(), 1);
            Checks.due("last", desk.last(), 2);
            Checks.due("next(0)", desk.next(0), 2);
            Checks.due("next(1)", desk.next(1), 1);
            Checks.due("name(1)", desk.name(1), 1);
            Checks.due("isEmpty", desk.isEmpty(), true);
        }
        Checks.due("the text stays", desk.read(), -5);
    }

    private static void comeWithout() {
        for (ModelDesk desk : without()) {
            for (int name = -1; name <= 26; name++) {
                Checks.due("come(" + name + ")", desk.come(name), false);
            }
        }
    }

    private static void longestRow() {
        ModelDesk desk = Checks.deskOf("(a,b)*");
        for (int i = 0; i < 509; i++) {
            Checks.due("name " + i, desk.come(i % 2), true);
        }
        Checks.due("may behind 509, the 512th call", desk.may(), 2);
    }

    private static void sixtyInARow() {
        ModelDesk desk = deskBehindRow(Checks.bracketOf(60, ","), "a".repeat(59));
        Checks.due("59 are not whole", desk.isWhole(), false);
        Checks.due("the 60th", desk.come(0), true);
        Checks.due("60 are whole", desk.isWhole(), true);
        Checks.due("no 61st", desk.come(0), false);
    }

    // ---- promise 12

    private static void wholeEmpty() {
        for (String model : new String[] {"(a)?", "(a)*", "(a?,b*)", "(a|b?)"}) {
            Checks.due("isWhole at first in " + model, Checks.deskOf(model).isWhole(), true);
        }
    }

    private static void notWholeEmpty() {
        for (String model : new String[] {"(a)", "(a)+", "(a?,b)", "(a|b)"}) {
            Checks.due("isWhole at first in " + model, Checks.deskOf(model).isWhole(), false);
        }
    }

    private static void wholeShortest() {
        Checks.due("a in (a,b+)", deskBehindRow("(a,b+)", "a").isWhole(), false);
        Checks.due("ab in (a,b+)", deskBehindRow("(a,b+)", "ab").isWhole(), true);
        Checks.due("abb in (a,b+)", deskBehindRow("(a,b+)", "abb").isWhole(), true);
        Checks.due("a in (a,b*)", deskBehindRow("(a,b*)", "a").isWhole(), true);
        Checks.due("a in (a,b)?", deskBehindRow("(a,b)?", "a").isWhole(), false);
        Checks.due("aba in (a,b)*", deskBehindRow("(a,b)*", "aba").isWhole(), false);
        Checks.due("a in ((a,b)|a)", deskBehindRow("((a,b)|a)", "a").isWhole(), true);
        Checks.due("a in (a|(a,b))", deskBehindRow("(a|(a,b))", "a").isWhole(), true);
    }

    private static void wholeBehindRefusal() {
        for (int name : new int[] {0, 25, 26, -1}) {
            ModelDesk whole = deskBehindRow("(a,b)", "ab");
            whole.come(name);
            Checks.due("still whole behind come(" + name + ")", whole.isWhole(), true);
            ModelDesk part = deskBehindRow("(a,b)?", "a");
            part.come(name);
            Checks.due("still not whole behind come(" + name + ")", part.isWhole(), false);
        }
    }

    private static void isWholeWithout() {
        for (ModelDesk desk : without()) {
            Checks.due("isWhole", desk.isWhole(), false);
        }
    }

    // ---- promise 13

    private static void mayBits() {
        for (int name = 0; name < 26; name++) {
            String model = "(" + (char) ('a' + name) + ")";
            Checks.due("may in " + model, Checks.deskOf(model).may(), 1 << name);
        }
        Checks.due("may of all", Checks.deskOf(alphabet()).may(), ALL_NAMES);
        Checks.due("may of all behind z", deskBehindRow(alphabet() + "*", "z").may(), ALL_NAMES);
        String last = "(" + Checks.repeated("a", ",", 59) + ",z)";
        Checks.due("may before the 60th place", deskBehindRow(last, "a".repeat(59)).may(), 1 << 25);
    }

    private static void mayNow() {
        Checks.due("may at first", Checks.deskOf("(a,b?,c)").may(), 1);
        Checks.due("may behind a", deskBehindRow("(a,b?,c)", "a").may(), 6);
        Checks.due("may behind ab", deskBehindRow("(a,b?,c)", "ab").may(), 4);
        Checks.due("may behind both a", deskBehindRow("((a,b)|(a,z))", "a").may(), 1 << 25 | 2);
    }

    private static void mayNone() {
        Checks.due("may behind (a)", deskBehindRow("(a)", "a").may(), 0);
        Checks.due("may behind (a)?", deskBehindRow("(a)?", "a").may(), 0);
        Checks.due("may behind 60", deskBehindRow(Checks.bracketOf(60, ","), "a".repeat(60)).may(), 0);
    }

    private static void mayTellsCome() {
        for (String row : new String[] {"", "a", "ab", "abc", "abcz"}) {
            for (int name = 0; name < 26; name++) {
                ModelDesk desk = deskBehindRow("(a,(b|c)*,z)", row);
                boolean told = (desk.may() >> name & 1) == 1;
                Checks.due("come(" + name + ") behind " + row, desk.come(name), told);
            }
        }
    }

    private static void mayBehindRefusal() {
        for (int name : new int[] {0, 25, 26, 32, -1}) {
            ModelDesk desk = deskBehindRow("(a,b,c)", "a");
            desk.come(name);
            Checks.due("may behind come(" + name + ")", desk.may(), 2);
        }
    }

    private static void mayWithout() {
        for (ModelDesk desk : without()) {
            Checks.due("may", desk.may(), 0);
        }
    }

    // ---- promise 14

    private static void againOfNone() {
        ModelDesk desk = Checks.deskOf("(a)*");
        Checks.due("again at first", desk.again(), 0);
        Checks.due("again once more", desk.again(), 0);
    }

    private static void againCounts() {
        ModelDesk desk = Checks.deskOf("(a)*");
        for (int names = 0; names < 9; names++) {
            Checks.comeAll(desk, "a".repeat(names));
            Checks.due("again of " + names, desk.again(), names);
            Checks.due("again at once", desk.again(), 0);
        }
    }

    private static void againWithoutRefused() {
        ModelDesk desk = Checks.deskOf("(a,b)*");
        for (int name : new int[] {1, 25, 26, -1}) {
            desk.come(name);
        }
        Checks.due("again of refused alone", desk.again(), 0);
        desk.come(0);
        desk.come(0);
        desk.come(1);
        desk.come(26);
        Checks.due("again of two of four", desk.again(), 2);
    }

    private static void nothingCameBehindAgain() {
        ModelDesk desk = deskBehindRow("(a?,b)", "ab");
        desk.again();
        Checks.due("may", desk.may(), 3);
        Checks.due("isWhole", desk.isWhole(), false);
        Checks.due("a comes at first", desk.come(0), true);
        ModelDesk empty = deskBehindRow("(a,b)?", "a");
        empty.again();
        Checks.due("the empty row is whole", empty.isWhole(), true);
        Checks.due("no b at first", empty.come(1), false);
    }

    private static void againKeepsModelAndText() {
        ModelDesk desk = deskBehindRow("(a,b)*", "ab");
        Checks.putText(desk, "(c,d");
        desk.again();
        Checks.due("first", desk.first(), 1);
        Checks.due("last", desk.last(), 2);
        Checks.due("next(1)", desk.next(1), 1);
        Checks.due("name(1)", desk.name(1), 1);
        Checks.due("isEmpty", desk.isEmpty(), true);
        Checks.due("isClear", desk.isClear(), true);
        Checks.due("the text stays", desk.read(), -5);
    }

    private static void againWithout() {
        for (ModelDesk desk : without()) {
            Checks.due("again", desk.again(), 0);
            Checks.due("again, refused names", desk.come(0), false);
            Checks.due("again once more", desk.again(), 0);
        }
    }

    private static void againOfMost() {
        ModelDesk desk = deskBehindRow("(a)+", "a".repeat(509));
        Checks.due("again of 509, the 512th call", desk.again(), 509);
    }
}
