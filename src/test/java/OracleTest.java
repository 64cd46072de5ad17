import java.util.ArrayList;
import java.util.LinkedHashSet;
import java.util.List;
import java.util.Random;
import java.util.Set;

/**
 * Many models and many wrong texts, held against a second reading of the document that works
 * otherwise: rows written out in full for the places, what is left of a model for the rows that come,
 * and a text shortened bracket by bracket for the reading. The seeds are fixed.
 */
public final class OracleTest {
    private static final int MOST_ROWS = 3000;
    private static final String BYTES = "()|,?*+ abzA(),|a\u00ff\u0000";

    private OracleTest() {
    }

    public static void main(String[] args) {
        Random random = new Random(20261115);
        ModelDesk desk = new ModelDesk();
        for (int i = 0; i < 3000; i++) {
            // A desk serves several models, so that nothing of an earlier one may show; more than three
            // could go beyond the 512 calls for which its answers are promised.
            if (i % 3 == 0) {
                desk = new ModelDesk();
            }
            modelAsDue(desk, random, 1 + random.nextInt(7));
        }
        for (int i = 0; i < 4000; i++) {
            readAsDue(mutated(new Maker(random, 1 + random.nextInt(9)).text(), random, 1 + random.nextInt(2)));
        }
        for (int i = 0; i < 3000; i++) {
            readAsDue(mutated("(", random, 1 + random.nextInt(12)));
        }
        for (int i = 0; i < 400; i++) {
            readAsDue(nearTheLimits(random));
        }
        Checks.end();
    }

    // ---- models

    private interface Term {
    }

    private record Name(int place, int name) implements Term {
    }

    private record Choice(List<Term> parts) implements Term {
    }

    private record Row(List<Term> parts) implements Term {
    }

    private record Signed(Term of, char sign) implements Term {
    }

    /** A model by chance, as a term and as a text. */
    private static final class Maker {
        private final Random random;
        private final int most;
        private final StringBuilder written = new StringBuilder();
        private final List<Integer> names = new ArrayList<>();
        private final Term term;

        Maker(Random random, int most) {
            this.random = random;
            this.most = most;
            this.term = signed(bracket(1));
        }

        String text() {
            return written.toString();
        }

        private Term bracket(int depth) {
            char separator = random.nextBoolean() ? '|' : ',';
            int count = separator == '|' ? 2 + random.nextInt(2) : 1 + random.nextInt(3);
            List<Term> parts = new ArrayList<>();
            written.append('(');
            for (int i = 0; i < count; i++) {
                if (i > 0) {
                    written.append(separator);
                }
                blanks();
                parts.add(part(depth));
                blanks();
            }
            written.append(')');
            return separator == '|' ? new Choice(parts) : new Row(parts);
        }

        private Term part(int depth) {
            if (depth < 4 && names.size() + 2 < most && random.nextInt(3) > 0) {
                return signed(bracket(depth + 1));
            }
            int name = random.nextInt(8) == 0 ? 25 : random.nextInt(3);
            written.append((char) ('a' + name));
            names.add(name);
            return signed(new Name(names.size() - 1, name));
        }

        private Term signed(Term term) {
            char sign = "?*+---".charAt(random.nextInt(6));
            if (sign == '-') {
                return term;
            }
            written.append(sign);
            return new Signed(term, sign);
        }

        private void blanks() {
            if (random.nextInt(6) == 0) {
                written.append(" ".repeat(1 + random.nextInt(2)));
            }
        }
    }

    private static void modelAsDue(ModelDesk desk, Random random, int most) {
        Maker made = new Maker(random, most);
        putInPieces(desk, made.text(), random);
        Checks.due("read " + made.text(), desk.read(), made.names.size());
        for (int p = 0; p < made.names.size(); p++) {
            Checks.due("name(" + p + ") in " + made.text(), desk.name(p), made.names.get(p));
        }
        Set<List<Integer>> rows = rowsOf(made.term);
        if (rows != null) {
            placesAsDue(desk, made, rows);
        }
        for (int i = 0; i < 3; i++) {
            rowAsDue(desk, made, random);
        }
    }

    private static void putInPieces(ModelDesk desk, String text, Random random) {
        int at = 0;
        while (at < text.length()) {
            int n = Math.min(1 + random.nextInt(8), text.length() - at);
            long v = random.nextLong();
            for (int i = 0; i < n; i++) {
                v = v << 8 | text.charAt(at + i);
            }
            Checks.due("put of " + text, desk.put(v, n), true);
            at += n;
        }
    }

    /** What the rows of places themselves show: twice round a * or + tells all that more would. */
    private static void placesAsDue(ModelDesk desk, Maker made, Set<List<Integer>> rows) {
        int places = made.names.size();
        long first = 0;
        long last = 0;
        long[] next = new long[places];
        for (List<Integer> row : rows) {
            for (int i = 0; i < row.size(); i++) {
                long bit = 1L << row.get(i);
                if (i == 0) {
                    first |= bit;
                } else {
                    next[row.get(i - 1)] |= bit;
                }
                if (i == row.size() - 1) {
                    last |= bit;
                }
            }
        }
        int competing = pairsIn(first, made.names);
        for (int p = 0; p < places; p++) {
            competing |= pairsIn(next[p], made.names);
            Checks.due("next(" + p + ") in " + made.text(), desk.next(p), next[p]);
        }
        Checks.due("first of " + made.text(), desk.first(), first);
        Checks.due("last of " + made.text(), desk.last(), last);
        Checks.due("isEmpty of " + made.text(), desk.isEmpty(), rows.contains(List.of()));
        Checks.due("competing in " + made.text(), desk.competing(), competing);
        Checks.due("isClear of " + made.text(), desk.isClear(), competing == 0);
    }

    private static int pairsIn(long set, List<Integer> names) {
        int found = 0;
        for (int p = 0; p < names.size(); p++) {
            for (int q = 0; q < p; q++) {
                boolean both = (set >> p & 1) == 1 && (set >> q & 1) == 1;
                if (both && names.get(p).equals(names.get(q))) {
                    found |= 1 << names.get(p);
                }
            }
        }
        return found;
    }

    /** The rows of places that a term allows, at most twice round; null if they are too many. */
    private static Set<List<Integer>> rowsOf(Term term) {
        if (term instanceof Name name) {
            return Set.of(List.of(name.place()));
        }
        if (term instanceof Choice choice) {
            Set<List<Integer>> all = new LinkedHashSet<>();
            for (Term part : choice.parts()) {
                Set<List<Integer>> rows = rowsOf(part);
                if (rows == null) {
                    return null;
                }
                all.addAll(rows);
            }
            return all;
        }
        if (term instanceof Row row) {
            Set<List<Integer>> all = Set.of(List.of());
            for (Term part : row.parts()) {
                all = joined(all, rowsOf(part));
            }
            return all;
        }
        Signed signed = (Signed) term;
        Set<List<Integer>> once = rowsOf(signed.of());
        if (once == null) {
            return null;
        }
        Set<List<Integer>> all = new LinkedHashSet<>(once);
        if (signed.sign() != '+') {
            all.add(List.of());
        }
        if (signed.sign() != '?') {
            Set<List<Integer>> twice = joined(once, once);
            if (twice == null) {
                return null;
            }
            all.addAll(twice);
        }
        return all;
    }

    private static Set<List<Integer>> joined(Set<List<Integer>> left, Set<List<Integer>> right) {
        if (left == null || right == null || left.size() * right.size() > MOST_ROWS) {
            return null;
        }
        Set<List<Integer>> all = new LinkedHashSet<>();
        for (List<Integer> one : left) {
            for (List<Integer> other : right) {
                List<Integer> row = new ArrayList<>(one);
                row.addAll(other);
                all.add(row);
            }
        }
        return all;
    }

    // ---- rows that come

    private static void rowAsDue(ModelDesk desk, Maker made, Random random) {
        Set<Term> left = Set.of(made.term);
        int came = 0;
        int steps = random.nextInt(9);
        for (int i = 0; i < steps; i++) {
            String where = " behind " + came + " names in " + made.text();
            Checks.due("may" + where, desk.may(), namesThatCome(left));
            Checks.due("isWhole" + where, desk.isWhole(), anyEmpty(left));
            int name = random.nextInt(5) == 0 ? random.nextInt(28) - 1 : nameThatComes(left, random);
            Set<Term> then = leftBehind(left, name);
            Checks.due("come(" + name + ")" + where, desk.come(name), !then.isEmpty());
            if (!then.isEmpty()) {
                left = then;
                came++;
            }
        }
        Checks.due("isWhole at the end in " + made.text(), desk.isWhole(), anyEmpty(left));
        Checks.due("again in " + made.text(), desk.again(), came);
    }

    private static int namesThatCome(Set<Term> left) {
        int names = 0;
        for (int name = 0; name < 26; name++) {
            if (!leftBehind(left, name).isEmpty()) {
                names |= 1 << name;
            }
        }
        return names;
    }

    private static int nameThatComes(Set<Term> left, Random random) {
        int names = namesThatCome(left);
        int from = random.nextInt(26);
        for (int i = 0; i < 26; i++) {
            int name = (from + i) % 26;
            if ((names >> name & 1) == 1) {
                return name;
            }
        }
        return from;
    }

    private static Set<Term> leftBehind(Set<Term> terms, int name) {
        Set<Term> left = new LinkedHashSet<>();
        for (Term term : terms) {
            left.addAll(leftBehind(term, name));
        }
        return left;
    }

    /** What is left of a term behind a name, in each way in which the term can begin with it. */
    private static Set<Term> leftBehind(Term term, int name) {
        Set<Term> left = new LinkedHashSet<>();
        if (term instanceof Name own) {
            if (own.name() == name) {
                left.add(new Row(List.of()));
            }
        } else if (term instanceof Choice choice) {
            left.addAll(leftBehind(new LinkedHashSet<>(choice.parts()), name));
        } else if (term instanceof Row row) {
            for (int i = 0; i < row.parts().size(); i++) {
                List<Term> rest = row.parts().subList(i + 1, row.parts().size());
                for (Term begun : leftBehind(row.parts().get(i), name)) {
                    left.add(before(begun, rest));
                }
                if (!isEmpty(row.parts().get(i))) {
                    break;
                }
            }
        } else if (term instanceof Signed signed) {
            List<Term> rest = signed.sign() == '?' ? List.of() : List.of(new Signed(signed.of(), '*'));
            for (Term begun : leftBehind(signed.of(), name)) {
                left.add(before(begun, rest));
            }
        }
        return left;
    }

    private static Term before(Term begun, List<Term> rest) {
        List<Term> parts = new ArrayList<>();
        if (begun instanceof Row row) {
            parts.addAll(row.parts());
        } else {
            parts.add(begun);
        }
        parts.addAll(rest);
        return new Row(parts);
    }

    private static boolean anyEmpty(Set<Term> terms) {
        for (Term term : terms) {
            if (isEmpty(term)) {
                return true;
            }
        }
        return false;
    }

    private static boolean isEmpty(Term term) {
        if (term instanceof Choice choice) {
            return anyEmpty(new LinkedHashSet<>(choice.parts()));
        }
        if (term instanceof Row row) {
            for (Term part : row.parts()) {
                if (!isEmpty(part)) {
                    return false;
                }
            }
            return true;
        }
        return term instanceof Signed signed && (signed.sign() != '+' || isEmpty(signed.of()));
    }

    // ---- reading

    private static String mutated(String text, Random random, int times) {
        StringBuilder changed = new StringBuilder(text);
        for (int i = 0; i < times; i++) {
            int at = random.nextInt(changed.length() + 1);
            char c = BYTES.charAt(random.nextInt(BYTES.length()));
            int kind = random.nextInt(4);
            if (at == changed.length() || kind < 2) {
                changed.insert(at, c);
            } else if (kind == 2) {
                changed.setCharAt(at, c);
            } else {
                changed.deleteCharAt(at);
            }
        }
        return changed.toString();
    }

    private static String nearTheLimits(Random random) {
        int deep = random.nextInt(13);
        int names = 57 + random.nextInt(6);
        String separator = random.nextBoolean() ? "," : "|";
        String inner = random.nextBoolean() ? "((b))" : "a";
        String text = "(".repeat(deep + 1) + Checks.repeated("a", separator, names - 2) + separator + inner
            + separator + "a" + ")".repeat(deep + 1);
        return random.nextBoolean() ? text : mutated(text, random, 1);
    }

    private static void readAsDue(String text) {
        ModelDesk desk = new ModelDesk();
        int due = dueOf(text);
        Checks.due("read " + text, Checks.readText(desk, text), due);
        Checks.due("a name behind read " + text, desk.name(0) >= 0, due > 0);
        Checks.due("something first behind read " + text, desk.first() != 0, due > 0);
    }

    private static int dueOf(String text) {
        int good = goodLength(text);
        int depth = 0;
        int names = 0;
        for (int i = 0; i < good; i++) {
            char c = text.charAt(i);
            depth += c == '(' ? 1 : c == ')' ? -1 : 0;
            names += c >= 'a' && c <= 'z' ? 1 : 0;
            if (depth > 12 || names > 60) {
                return -1000 - i;
            }
        }
        return good == text.length() && isModel(text) ? names : -1 - good;
    }

    /** How many of a text's bytes some model begins with. */
    private static int goodLength(String text) {
        int good = 0;
        while (good < text.length() && canGoOn(text.substring(0, good + 1))) {
            good++;
        }
        return good;
    }

    private static boolean canGoOn(String text) {
        int open = 0;
        for (int i = 0; i < text.length(); i++) {
            open += text.charAt(i) == '(' ? 1 : text.charAt(i) == ')' ? -1 : 0;
        }
        String closing = ")".repeat(Math.max(0, open));
        return isModel(text + closing) || isModel(text + "a" + closing);
    }

    /** A bracket without brackets in it becomes one sign, #, until the text is # alone or stays as it is. */
    private static boolean isModel(String text) {
        String part = "[a-z#][?*+]?";
        String bracket = "\\( *" + part + "(( *\\| *" + part + ")+|( *, *" + part + ")*) *\\)";
        String before = "";
        String now = text;
        while (!now.equals(before)) {
            before = now;
            now = now.replaceAll(bracket, "#");
        }
        return now.matches("#[?*+]?");
    }
}
