/** What every test here needs: texts put into a desk, and answers held against those that are due. */
final class Checks {
    private static int wrong = 0;
    private static int done = 0;
    private static String only = "";

    private Checks() {
    }

    /** With an argument, only the sentences that have these words in their name are tested. */
    static void only(String[] args) {
        only = String.join(" ", args);
    }

    /** The test of one sentence of the document; what it throws counts against the sentence too. */
    static void sentence(String words, Runnable test) {
        if (!words.contains(only)) {
            return;
        }
        int wrongBefore = wrong;
        int doneBefore = done;
        try {
            test.run();
        } catch (RuntimeException thrown) {
            due(words + ": " + thrown, false, true);
        }
        due("answers asked for " + words, done > doneBefore, true);
        if (wrong > wrongBefore) {
            System.out.println("BROKEN: " + words);
        }
    }

    static void due(String call, long got, long want) {
        done++;
        if (got != want) {
            wrong++;
            System.out.println(call + " answered " + got + ", due is " + want);
        }
    }

    static void due(String call, boolean got, boolean want) {
        due(call, got ? 1L : 0L, want ? 1L : 0L);
    }

    static void end() {
        System.out.println(done + " answers, " + wrong + " not as due");
        if (wrong != 0 || done == 0) {
            System.exit(1);
        }
    }

    /** Puts the characters (0 to 255) of a text, eight at a time. */
    static void putText(ModelDesk desk, String text) {
        for (int from = 0; from < text.length(); from += 8) {
            int n = Math.min(8, text.length() - from);
            long v = 0;
            for (int i = 0; i < n; i++) {
                v = v << 8 | text.charAt(from + i);
            }
            due("put of " + text, desk.put(v, n), true);
        }
    }

    static int readText(ModelDesk desk, String text) {
        putText(desk, text);
        return desk.read();
    }

    static ModelDesk deskOf(String text) {
        ModelDesk desk = new ModelDesk();
        due("a model is read from " + text, readText(desk, text) > 0, true);
        return desk;
    }

    /** A desk that had a model and a row, and then read a text that is none. */
    static ModelDesk deskBehind(String model, String row, String wrongText) {
        ModelDesk desk = deskOf(model);
        due(row + " comes in " + model, comeAll(desk, row), true);
        due(wrongText + " is no model", readText(desk, wrongText) < 0, true);
        return desk;
    }

    static void dueWithoutModel(String when, ModelDesk desk) {
        due(when + "isClear", desk.isClear(), false);
        due(when + "competing", desk.competing(), 0);
        due(when + "isEmpty", desk.isEmpty(), false);
        due(when + "first", desk.first(), 0);
        due(when + "next(0)", desk.next(0), 0);
        due(when + "last", desk.last(), 0);
        due(when + "name(0)", desk.name(0), -1);
        due(when + "come(0)", desk.come(0), false);
        due(when + "isWhole", desk.isWhole(), false);
        due(when + "may", desk.may(), 0);
        due(when + "again", desk.again(), 0);
        due(when + "isWhole, again", desk.isWhole(), false);
    }

    static boolean comeAll(ModelDesk desk, String row) {
        for (int i = 0; i < row.length(); i++) {
            if (!desk.come(row.charAt(i) - 'a')) {
                return false;
            }
        }
        return true;
    }

    static String repeated(String part, String separator, int times) {
        StringBuilder joined = new StringBuilder(part);
        for (int i = 1; i < times; i++) {
            joined.append(separator).append(part);
        }
        return joined.toString();
    }

    /** A row or choice of so many places, all of one name. */
    static String bracketOf(int places, String separator) {
        return "(" + repeated("a", separator, places) + ")";
    }

    /** The two parts with blanks between them, so many bytes in all. */
    static String padded(String before, String behind, int bytes) {
        return before + " ".repeat(bytes - before.length() - behind.length()) + behind;
    }
}
