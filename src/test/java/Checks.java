/** What every test here needs: texts put into a desk, and answers held against those that are due. */
final class Checks {
    private static int wrong = 0;
    private static int done = 0;

    private Checks() {
    }

    static void due(String call, long got, long want) {
        done++;
        if (got != want) {
            wrong++;
            System.out.println(call + " answered " + got + ", due is " + want);
        }
    }

    static void due(String call, boolean got, boolean want) {
        due(call, got ? 1L : 0L, want ? 1L : 0L);
    }

    static void end() {
        System.out.println(done + " answers, " + wrong + " not as due");
        if (wrong != 0 || done == 0) {
            System.exit(1);
        }
    }

    /** Puts the characters (0 to 255) of a text, eight at a time. */
    static void putText(ModelDesk desk, String text) {
        for (int from = 0; from < text.length(); from += 8) {
            int n = Math.min(8, text.length() - from);
            long v = 0;
            for (int i = 0; i < n; i++) {
                v = v << 8 | text.charAt(from + i);
            }
            due("put of " + text, desk.put(v, n), true);
        }
    }

    static int readText(ModelDesk desk, String text) {
        putText(desk, text);
        return desk.read();
    }

    static ModelDesk deskOf(String text) {
        ModelDesk desk = new ModelDesk();
        due("a model is read from " + text, readText(desk, text) > 0, true);
        return desk;
    }

    static boolean comeAll(ModelDesk desk, String row) {
        for (int i = 0; i < row.length(); i++) {
            if (!desk.come(row.charAt(i) - 'a')) {
                return false;
            }
        }
        return true;
    }

    static String repeated(String part, String separator, int times) {
        StringBuilder joined = new StringBuilder(part);
        for (int i = 1; i < times; i++) {
            joined.append(separator).append(part);
        }
        return joined.toString();
    }
}
