/**
 * Content models: expressions over names, read from a text; which names can come first, and behind
 * which, whether a model is clear, and rows of names that it allows.
 */
public final class ModelDesk {
    private static final int MAX_BYTES = 300;
    private static final int MAX_PUT = 8;

    private final byte[] text;
    private int length;
    private final Reader reader;
    private final Model model;

    // Of the row that came, only these three are kept: no answer needs the names themselves.
    private long ready;
    private boolean whole;
    private int came;

    public ModelDesk() {
        text = new byte[MAX_BYTES];
        reader = new Reader();
        model = reader.model;
    }

    public boolean put(long v, int n) {
        if (n < 1 || n > MAX_PUT || length + n > MAX_BYTES) {
            return false;
        }
        for (int i = n - 1; i >= 0; i--) {
            text[length] = (byte) (v >>> (8 * i));
            length++;
        }
        return true;
    }

    public int read() {
        int answer = readText();
        if (answer < 0) {
            model.clear();
        }
        length = 0;
        startRow();
        return answer;
    }

    public boolean isClear() {
        return model.places > 0 && model.competingNames() == 0;
    }

    public int competing() {
        return model.competingNames();
    }

    public boolean isEmpty() {
        return model.empty;
    }

    public long first() {
        return model.firsts;
    }

    public long next(int place) {
        return model.has(place) ? model.nexts[place] : 0L;
    }

    public long last() {
        return model.lasts;
    }

    public int name(int place) {
        return model.has(place) ? model.names[place] : -1;
    }

    public boolean come(int name) {
        // A name can be read by several places at once where the model is not clear: all are kept.
        long reached = model.placesNamed(name, ready);
        if (reached == 0L) {
            return false;
        }
        ready = model.nextBehindAny(reached);
        whole = (reached & model.lasts) != 0L;
        came++;
        return true;
    }

    public boolean isWhole() {
        return whole;
    }

    public int may() {
        return model.namesOf(ready);
    }

    public int again() {
        int had = came;
        startRow();
        return had;
    }

    private int readText() {
        reader.begin();
        for (int i = 0; i < length; i++) {
            int step = reader.take(text[i]);
            if (step == Reader.WRONG) {
                return -1 - i;
            }
            if (step == Reader.TOO_MUCH) {
                return -1000 - i;
            }
        }
        return reader.finish() ? model.places : -1 - length;
    }

    private void startRow() {
        ready = model.firsts;
        whole = model.empty;
        came = 0;
    }

    /** The places of a model with what can stand where; without places there is no model. */
    private static final class Model {
        static final int MAX_PLACES = 60;

        final int[] names;
        final long[] nexts;
        int places;
        long firsts;
        long lasts;
        boolean empty;

        Model() {
            names = new int[MAX_PLACES];
            nexts = new long[MAX_PLACES];
        }

        void clear() {
            places = 0;
            firsts = 0L;
            lasts = 0L;
            empty = false;
        }

        boolean isFull() {
            return places >= MAX_PLACES;
        }

        boolean has(int place) {
            return place >= 0 && place < places;
        }

        void addPlace(int name) {
            if (isFull()) {
                return;
            }
            names[places] = name;
            // The rows serve every model anew, so an earlier model's answer may stand here.
            nexts[places] = 0L;
            places++;
        }

        void connect(long from, long to) {
            for (int p = 0; p < places; p++) {
                if (holds(from, p)) {
                    nexts[p] |= to;
                }
            }
        }

        long nextBehindAny(long set) {
            long behind = 0L;
            for (int p = 0; p < places; p++) {
                if (holds(set, p)) {
                    behind |= nexts[p];
                }
            }
            return behind;
        }

        long placesNamed(int name, long set) {
            long found = 0L;
            for (int p = 0; p < places; p++) {
                if (names[p] == name && holds(set, p)) {
                    found |= 1L << p;
                }
            }
            return found;
        }

        int namesOf(long set) {
            int found = 0;
            for (int p = 0; p < places; p++) {
                if (holds(set, p)) {
                    found |= 1 << names[p];
                }
            }
            return found;
        }

        int competingNames() {
            int found = namesTwiceIn(firsts);
            for (int p = 0; p < places; p++) {
                found |= namesTwiceIn(nexts[p]);
            }
            return found;
        }

        private int namesTwiceIn(long set) {
            int once = 0;
            int twice = 0;
            for (int p = 0; p < places; p++) {
                if (holds(set, p)) {
                    int bit = 1 << names[p];
                    twice |= once & bit;
                    once |= bit;
                }
            }
            return twice;
        }

        private static boolean holds(long set, int place) {
            return (set >>> place & 1L) != 0L;
        }
    }

    /** Reads a text byte by byte into a model; what stands open is kept in rows, one entry a bracket. */
    private static final class Reader {
        static final int GOES_ON = 0;
        static final int WRONG = 1;
        static final int TOO_MUCH = 2;

        private static final int MAX_DEPTH = 12;
        private static final int NO_SEPARATOR = 0;

        private static final int AT_START = 0;
        private static final int BEFORE_PART = 1;
        private static final int BEHIND_PART = 2;
        // Behind a sign, or blanks, that stand behind a part: no sign can come any more.
        private static final int BEHIND_SIGN = 3;

        final Model model;
        private final long[] openFirsts;
        private final long[] openLasts;
        private final boolean[] openEmpty;
        private final int[] separators;
        private int depth;
        private int state;

        // The part that was read last and that may still get its sign.
        private long partFirsts;
        private long partLasts;
        private boolean partEmpty;

        Reader() {
            model = new Model();
            openFirsts = new long[MAX_DEPTH];
            openLasts = new long[MAX_DEPTH];
            openEmpty = new boolean[MAX_DEPTH];
            separators = new int[MAX_DEPTH];
        }

        void begin() {
            model.clear();
            depth = 0;
            state = AT_START;
        }

        int take(int c) {
            if (state == AT_START) {
                return c == '(' ? open() : WRONG;
            }
            if (state == BEFORE_PART) {
                return takeBeforePart(c);
            }
            if (isSign(c)) {
                return takeSign(c);
            }
            // Behind the model's last bracket nothing but its sign can stand, blanks neither.
            if (depth == 0) {
                return WRONG;
            }
            if (c == ' ') {
                state = BEHIND_SIGN;
                return GOES_ON;
            }
            if (c == ')') {
                return close();
            }
            return c == '|' || c == ',' ? takeSeparator(c) : WRONG;
        }

        boolean finish() {
            if (depth > 0 || state == AT_START) {
                return false;
            }
            model.firsts = partFirsts;
            model.lasts = partLasts;
            model.empty = partEmpty;
            return true;
        }

        private int takeBeforePart(int c) {
            if (c == ' ') {
                return GOES_ON;
            }
            if (c == '(') {
                return open();
            }
            return c >= 'a' && c <= 'z' ? takeName(c - 'a') : WRONG;
        }

        private int open() {
            if (depth >= MAX_DEPTH) {
                return TOO_MUCH;
            }
            separators[depth] = NO_SEPARATOR;
            depth++;
            state = BEFORE_PART;
            return GOES_ON;
        }

        private int takeName(int name) {
            if (model.isFull()) {
                return TOO_MUCH;
            }
            partFirsts = 1L << model.places;
            partLasts = partFirsts;
            partEmpty = false;
            model.addPlace(name);
            state = BEHIND_PART;
            return GOES_ON;
        }

        private int takeSign(int c) {
            if (state != BEHIND_PART) {
                return WRONG;
            }
            if (c != '?') {
                model.connect(partLasts, partFirsts);
            }
            if (c != '+') {
                partEmpty = true;
            }
            state = BEHIND_SIGN;
            return GOES_ON;
        }

        private int takeSeparator(int c) {
            int level = depth - 1;
            if (level < 0 || level >= MAX_DEPTH) {
                return WRONG;
            }
            if (separators[level] != NO_SEPARATOR && separators[level] != c) {
                return WRONG;
            }
            joinPart(level);
            separators[level] = c;
            state = BEFORE_PART;
            return GOES_ON;
        }

        private int close() {
            int level = depth - 1;
            if (level < 0 || level >= MAX_DEPTH) {
                return WRONG;
            }
            joinPart(level);
            partFirsts = openFirsts[level];
            partLasts = openLasts[level];
            partEmpty = openEmpty[level];
            depth = level;
            state = BEHIND_PART;
            return GOES_ON;
        }

        private void joinPart(int level) {
            if (separators[level] == NO_SEPARATOR) {
                openFirsts[level] = partFirsts;
                openLasts[level] = partLasts;
                openEmpty[level] = partEmpty;
            } else if (separators[level] == '|') {
                openFirsts[level] |= partFirsts;
                openLasts[level] |= partLasts;
                openEmpty[level] = openEmpty[level] || partEmpty;
            } else {
                model.connect(openLasts[level], partFirsts);
                if (openEmpty[level]) {
                    openFirsts[level] |= partFirsts;
                }
                openLasts[level] = partEmpty ? openLasts[level] | partLasts : partLasts;
                openEmpty[level] = openEmpty[level] && partEmpty;
            }
        }

        private static boolean isSign(int c) {
            return c == '?' || c == '*' || c == '+';
        }
    }
}
