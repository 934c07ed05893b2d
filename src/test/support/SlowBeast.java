import java.util.ArrayList;
import java.util.Arrays;
import java.util.List;

/** The document's face once more, on a SlowEvening: which numbers may be, and what is refused ahead of what. */
final class SlowBeast {
    private static final int NONE = -1;
    private static final int BAD = -2;
    private static final int OTHER = -3;
    private static final int NOTHING = -4;
    private static final int STUCK = -5;
    private static final int FULL = -6;
    private static final int FINE = 0;
    private static final int[][] MAY_BE = {{0, 25}, {1, 5}, {1, 600}, {0, 50}, {0, 50}, {0, 50}, {0, 1}, {0, 1}};

    private record Row(int sort, long[] elements) {
    }

    private record Shown(int word) {
    }

    private SlowEvening now = new SlowEvening();
    private SlowEvening image = null;
    /** Each a Row, a Shown, or null. */
    private final Object[] shelves = new Object[8];
    private final StringBuilder tape = new StringBuilder();
    private final int[] refusals = new int[5];

    private int refuse(int why) {
        refusals[-2 - why]++;
        return why;
    }

    private static boolean is(int v, int least, int most) {
        return least <= v && v <= most;
    }

    private static boolean isShelf(int s) {
        return is(s, 0, 7);
    }

    boolean isWord(int w) {
        return is(w, 0, now.words.size() - 1);
    }

    private boolean isPerson(int p) {
        return is(p, 0, now.people() - 1);
    }

    private static boolean isLetter(int letter) {
        return is(letter, 0, 25);
    }

    private boolean isColumn(int c) {
        return is(c, 0, now.columns - 1);
    }

    int row(int s, int sort, int n) {
        if (!isShelf(s) || !is(sort, 0, 4) || !is(n, 0, 40)) {
            return refuse(BAD);
        }
        shelves[s] = new Row(sort, new long[n]);
        return 1;
    }

    private int wantsRow(int s) {
        if (!isShelf(s)) {
            return BAD;
        }
        if (shelves[s] instanceof Shown) {
            return OTHER;
        }
        return shelves[s] == null ? NOTHING : FINE;
    }

    int set(int s, int i, long v) {
        if (wantsRow(s) != FINE) {
            return refuse(wantsRow(s));
        }
        Row row = (Row) shelves[s];
        if (!is(i, 0, row.elements.length - 1)) {
            return refuse(BAD);
        }
        int[] bits = {8, 16, 32, 64};
        row.elements[i] = row.sort == 4 ? Math.abs(Long.signum(v)) : v << 64 - bits[row.sort] >> 64 - bits[row.sort];
        return 1;
    }

    int copy(int p, int q, int i, int j, int n) {
        if (!isShelf(p) || !isShelf(q)) {
            return refuse(BAD);
        }
        if (shelves[p] instanceof Shown || shelves[q] instanceof Shown) {
            return refuse(OTHER);
        }
        if (shelves[p] == null || shelves[q] == null) {
            return refuse(NOTHING);
        }
        Row from = (Row) shelves[p];
        Row to = (Row) shelves[q];
        if (from.sort != to.sort) {
            return refuse(OTHER);
        }
        if (n < 0 || i < 0 || j < 0 || (long) i + n > from.elements.length || (long) j + n > to.elements.length) {
            return refuse(BAD);
        }
        long[] asTheyWere = Arrays.copyOfRange(from.elements, i, i + n);
        for (int k = 0; k < n; k++) {
            to.elements[j + k] = asTheyWere[k];
        }
        return n;
    }

    long element(int s, int i) {
        boolean isThere = isShelf(s) && shelves[s] instanceof Row row && is(i, 0, row.elements.length - 1);
        return isThere ? ((Row) shelves[s]).elements[i] : 0;
    }

    int holds(int s) {
        if (!isShelf(s) || shelves[s] == null) {
            return NONE;
        }
        return shelves[s] instanceof Row row ? row.sort : 10 + ((Shown) shelves[s]).word;
    }

    int show(int s, int word) {
        if (!isShelf(s) || word != NONE && !isWord(word)) {
            return refuse(BAD);
        }
        shelves[s] = word == NONE ? null : new Shown(word);
        return 1;
    }

    int says(int s, int kind) {
        if (!isShelf(s) || !is(kind, 0, 5)) {
            return refuse(BAD);
        }
        if (shelves[s] instanceof Row) {
            return refuse(OTHER);
        }
        if (shelves[s] == null) {
            return refuse(NOTHING);
        }
        int number = ((Shown) shelves[s]).word;
        SlowEvening.Word word = now.words.get(number);
        int sheets = (int) now.sheets.stream().filter(line -> line.contains(number)).count();
        int[] all = {word.takes(), sheets, word.knownBy.size(), sheets == 1 ? 1 : 0, now.missingForHalf(number), word.a};
        return word.isOf(kind) ? all[kind] : refuse(OTHER);
    }

    int columns(int n) {
        if (!is(n, 1, 5)) {
            return refuse(BAD);
        }
        if (!now.words.isEmpty()) {
            return refuse(STUCK);
        }
        int ahead = now.columns;
        now.columns = n;
        return ahead;
    }

    int word(int kind, int letter, int column, int seconds, int a) {
        if (!is(kind, 0, 5) || !isLetter(letter) || !isColumn(column) || !is(seconds, 1, 60) || !is(a, 0, 9)) {
            return refuse(BAD);
        }
        if (now.words.size() == 24) {
            return refuse(FULL);
        }
        now.words.add(new SlowEvening.Word(kind, letter, column, seconds, a));
        return now.words.size() - 1;
    }

    int person() {
        if (now.people() == 4) {
            return refuse(FULL);
        }
        now.sheets.add(new ArrayList<>());
        now.scores.add(0);
        return now.people() - 1;
    }

    int knows(int person, int word, boolean is) {
        if (!isPerson(person) || !isWord(word)) {
            return refuse(BAD);
        }
        boolean isOther = is ? now.words.get(word).knownBy.add(person) : now.words.get(word).knownBy.remove(person);
        return isOther ? 1 : 0;
    }

    int ask(int what, int v) {
        if (!is(what, 0, 7) || !is(v, MAY_BE[what][0], MAY_BE[what][1])) {
            return refuse(BAD);
        }
        int ahead = now.asked[what];
        now.asked[what] = v;
        return ahead;
    }

    private int troubleOfSheet(int s, int n, int person) {
        if (!isShelf(s) || !is(n, 0, 5) || !isPerson(person)) {
            return BAD;
        }
        if (wantsRow(s) != FINE) {
            return wantsRow(s);
        }
        return ((Row) shelves[s]).elements.length < n ? BAD : FINE;
    }

    private List<Long> told(int s, int n) {
        List<Long> all = new ArrayList<>();
        for (int i = 0; i < n; i++) {
            all.add(((Row) shelves[s]).elements[i]);
        }
        return all;
    }

    int judge(int s, int n, int person) {
        int trouble = troubleOfSheet(s, n, person);
        return trouble == FINE ? now.wrong(person, told(s, n)) : refuse(trouble);
    }

    int sheet(int s, int n, int person) {
        int trouble = troubleOfSheet(s, n, person);
        if (trouble != FINE) {
            return refuse(trouble);
        }
        if (now.wrong(person, told(s, n)) != NONE) {
            return refuse(STUCK);
        }
        List<Integer> line = new ArrayList<>();
        told(s, n).forEach(w -> line.add(w.intValue()));
        now.sheets.set(person, line);
        return n;
    }

    int takes(int s, int n, int person) {
        int trouble = troubleOfSheet(s, n, person);
        if (trouble != FINE) {
            return refuse(trouble);
        }
        if (now.wrong(person, told(s, n)) != NONE) {
            return refuse(STUCK);
        }
        return told(s, n).stream().mapToInt(w -> now.words.get(w.intValue()).takes()).sum();
    }

    int feed(int letter) {
        if (!is(letter, 0, 255)) {
            return refuse(BAD);
        }
        if (tape.length() == 250) {
            return refuse(FULL);
        }
        tape.append((char) letter);
        return tape.length();
    }

    int wipe() {
        int ahead = tape.length();
        tape.setLength(0);
        return ahead;
    }

    int evening() {
        SlowEvening then = now.copy();
        String text = tape.toString();
        tape.setLength(0);
        try {
            int statements = new SlowReader(text, then).read();
            now = then;
            return statements;
        } catch (SlowReader.Fault fault) {
            refuse(BAD);
            return -20 - fault.place;
        }
    }

    int wordOf(int word, int what) {
        if (!isWord(word) || !is(what, 0, 7)) {
            return refuse(BAD);
        }
        SlowEvening.Word w = now.words.get(word);
        return new int[] {w.kind, w.letter, w.column, w.seconds, w.a, SlowEvening.bits(w.knownBy), w.used ? 1 : 0, w.takes()}[what];
    }

    /** Of a line of words the i-th, or what NONE stands for. */
    private int ith(int i, List<Integer> line, int forNone) {
        if (i == NONE) {
            return forNone;
        }
        return i < line.size() ? line.get(i) : refuse(STUCK);
    }

    int sheetOf(int person, int i) {
        return isPerson(person) && i >= NONE ? ith(i, now.sheets.get(person), now.sheets.get(person).size()) : refuse(BAD);
    }

    int order(int person, int i) {
        return isPerson(person) && i >= NONE ? ith(i, now.bestOrder(person), now.orderPoints(person)) : refuse(BAD);
    }

    int score(int person) {
        return isPerson(person) ? now.scores.get(person) : refuse(BAD);
    }

    int call() {
        return now.people() > 0 ? now.call() : refuse(STUCK);
    }

    int caller() {
        return now.caller();
    }

    int written(int person, int second) {
        return isPerson(person) && is(second, 0, 600) ? SlowEvening.bits(now.written(person, second)) : refuse(BAD);
    }

    int kept(int person) {
        return isPerson(person) ? SlowEvening.bits(now.kept().get(person)) : refuse(BAD);
    }

    int points(int person, int column) {
        return isPerson(person) && (column == NONE || isColumn(column)) ? now.points(person, column) : refuse(BAD);
    }

    int winner() {
        return now.people() > 0 ? now.mostPoints(NONE) : refuse(STUCK);
    }

    int best(int person, int what) {
        if (!isPerson(person) || !is(what, 0, 2)) {
            return refuse(BAD);
        }
        return what == 0 ? now.bestPoints(person) : what == 1 ? SlowEvening.bits(now.bestSheet(person)) : now.bestCall(person);
    }

    int swap(int person, int i, int j) {
        if (!isPerson(person) || !is(i, 0, now.sheets.get(person).size() - 1) || !is(j, 0, now.sheets.get(person).size() - 1)) {
            return refuse(BAD);
        }
        java.util.Collections.swap(now.sheets.get(person), i, j);
        return now.sheets.get(person).get(i);
    }

    int bestWord(int person, int column) {
        return isPerson(person) && isColumn(column) ? now.bestWord(person, column) : refuse(BAD);
    }

    int learn(int person, int what) {
        if (!isPerson(person) || !is(what, 0, 1)) {
            return refuse(BAD);
        }
        return what == 0 ? now.learn(person) : now.learnMore(person);
    }

    int lonely(int letter) {
        return isLetter(letter) ? now.lonely(letter) : refuse(BAD);
    }

    int fills(int person, int letter) {
        return isPerson(person) && isLetter(letter) ? now.fills(person, letter) : refuse(BAD);
    }

    int gains(int letter) {
        if (!isLetter(letter)) {
            return refuse(BAD);
        }
        return now.people() > 0 ? now.gains(letter) : refuse(STUCK);
    }

    int silent(int letter, int rate, int second) {
        return isLetter(letter) && is(rate, 1, 26) && is(second, 0, 1000) ? SlowEvening.silent(letter, rate, second) : refuse(BAD);
    }

    int stop(int letter, int rate, int person) {
        return isLetter(letter) && is(rate, 1, 26) && isPerson(person) ? now.stop(letter, rate, person) : refuse(BAD);
    }

    int keptBy(int word) {
        return isWord(word) ? now.keptBy(word) : refuse(BAD);
    }

    int rival(int person) {
        return isPerson(person) ? now.mostPoints(person) : refuse(BAD);
    }

    int needFor(int person) {
        return isPerson(person) ? now.needFor(person) : refuse(BAD);
    }

    int late(int person) {
        return isPerson(person) ? now.late(person) : refuse(BAD);
    }

    int clashes() {
        return now.clashes();
    }

    int empty() {
        return now.empty();
    }

    int takeBest(int person) {
        return isPerson(person) ? now.takeBest(person) : refuse(BAD);
    }

    int round() {
        return now.people() > 0 ? now.round() : refuse(STUCK);
    }

    int rounds(int n) {
        if (!is(n, 1, 9)) {
            return refuse(BAD);
        }
        return now.people() > 0 ? now.rounds(n) : refuse(STUCK);
    }

    int again() {
        return now.again();
    }

    int seed(int v) {
        int ahead = now.seed;
        now.seed = v;
        return ahead;
    }

    int image() {
        image = now.copy();
        return 1;
    }

    int back() {
        if (image == null) {
            return refuse(STUCK);
        }
        now = image.copy();
        for (int s = 0; s < 8; s++) {
            if (shelves[s] instanceof Shown shown && !isWord(shown.word)) {
                shelves[s] = null;
            }
        }
        return 1;
    }

    int status(int what) {
        if (!is(what, 0, 19)) {
            return NONE;
        }
        List<Integer> all = new ArrayList<>(List.of(now.columns, now.words.size(), now.people()));
        Arrays.stream(now.asked).forEach(all::add);
        all.add(tape.length());
        Arrays.stream(refusals).forEach(all::add);
        all.add(now.seed);
        all.add((int) Arrays.stream(shelves).filter(shelf -> shelf != null).count());
        all.add(now.used());
        return all.get(what);
    }
}
