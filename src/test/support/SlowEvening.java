import java.util.ArrayList;
import java.util.Collections;
import java.util.List;
import java.util.TreeSet;
import java.util.function.ToIntFunction;

/**
 * What the document's Terms call the evening, a round, and what comes of it, word by word and slowly:
 * every set of words, every order and every second is tried. SlowBeast puts the promises' face on it.
 */
final class SlowEvening {
    static final int NONE = -1;
    static final int COMMON = 1;
    static final int RARE = 2;
    static final int INVENTED = 4;
    static final int LONG = 5;
    private static final int[] UNDER = {NONE, 0, 0, COMMON, 0, RARE};
    private static final int LETTER = 0;
    private static final int NEED = 1;
    private static final int BELL = 2;
    private static final int ALONE = 3;
    private static final int OWN = 4;
    private static final int ALIKE = 5;
    private static final int VOTE = 6;
    private static final int BAR = 7;

    static final class Word {
        final int kind;
        final int letter;
        final int column;
        final int seconds;
        final int a;
        final TreeSet<Integer> knownBy = new TreeSet<>();
        boolean used = false;

        Word(int kind, int letter, int column, int seconds, int a) {
            this.kind = kind;
            this.letter = letter;
            this.column = column;
            this.seconds = seconds;
            this.a = a;
        }

        Word copy() {
            Word w = new Word(kind, letter, column, seconds, a);
            w.knownBy.addAll(knownBy);
            w.used = used;
            return w;
        }

        boolean isOf(int above) {
            for (int k = kind; k != NONE; k = UNDER[k]) {
                if (k == above) {
                    return true;
                }
            }
            return false;
        }

        int takes() {
            int time = isOf(COMMON) ? Math.max(1, seconds / 2) : seconds;
            time += isOf(RARE) ? a : 0;
            return time + (isOf(LONG) ? 5 : 0);
        }
    }

    int columns = 4;
    final List<Word> words = new ArrayList<>();
    final List<List<Integer>> sheets = new ArrayList<>();
    final List<Integer> scores = new ArrayList<>();
    final int[] asked = {0, 4, 180, 20, 10, 5, 0, 0};
    int seed = 1;

    SlowEvening copy() {
        SlowEvening e = new SlowEvening();
        e.columns = columns;
        words.forEach(w -> e.words.add(w.copy()));
        sheets.forEach(s -> e.sheets.add(new ArrayList<>(s)));
        e.scores.addAll(scores);
        System.arraycopy(asked, 0, e.asked, 0, asked.length);
        e.seed = seed;
        return e;
    }

    int people() {
        return sheets.size();
    }

    /** The first of these, by numbers, for which the amount is greatest; NONE: there is none. */
    private static int firstOfMost(List<Integer> numbers, ToIntFunction<Integer> amount) {
        int found = NONE;
        int most = 0;
        for (int k : numbers) {
            int much = amount.applyAsInt(k);
            if (found == NONE || much > most) {
                found = k;
                most = much;
            }
        }
        return found;
    }

    private static List<Integer> below(int n) {
        List<Integer> all = new ArrayList<>();
        for (int k = 0; k < n; k++) {
            all.add(k);
        }
        return all;
    }

    private List<Integer> everybodyBut(int person) {
        List<Integer> all = below(people());
        all.remove(Integer.valueOf(person));
        return all;
    }

    // ---- a round

    private boolean isBarred(int w) {
        return asked[BAR] == 1 && words.get(w).used;
    }

    /** With no other word on the sheet. */
    private boolean canBeAlone(int person, int w) {
        Word word = words.get(w);
        return word.letter == asked[LETTER] && word.column < columns && word.knownBy.contains(person) && !isBarred(w);
    }

    boolean canBeOn(int person, long w, List<Integer> others) {
        if (w < 0 || w >= words.size() || !canBeAlone(person, (int) w)) {
            return false;
        }
        return others.stream().noneMatch(v -> words.get(v).column == words.get((int) w).column);
    }

    /** The place of the first that can't be there with those ahead of it. */
    int wrong(int person, List<Long> told) {
        List<Integer> ahead = new ArrayList<>();
        for (int i = 0; i < told.size(); i++) {
            if (!canBeOn(person, told.get(i), ahead)) {
                return i;
            }
            ahead.add((int) (long) told.get(i));
        }
        return NONE;
    }

    int takes(List<Integer> line) {
        return line.stream().mapToInt(w -> words.get(w).takes()).sum();
    }

    private List<Integer> whatCounts(int person) {
        List<Integer> line = new ArrayList<>(sheets.get(person));
        line.removeIf(w -> !canBeAlone(person, w));
        return line;
    }

    List<Integer> written(int person, int second) {
        List<Integer> line = whatCounts(person);
        while (takes(line) > second) {
            line.remove(line.size() - 1);
        }
        return line;
    }

    private boolean hasEnough(int person, int second) {
        return written(person, second).size() >= asked[NEED];
    }

    int call() {
        for (int second = 0; second < asked[BELL]; second++) {
            int now = second;
            if (below(people()).stream().anyMatch(p -> hasEnough(p, now))) {
                return second;
            }
        }
        return asked[BELL];
    }

    int caller() {
        int second = call();
        return below(people()).stream().filter(p -> hasEnough(p, second)).findFirst().orElse(NONE);
    }

    int missingForHalf(int w) {
        int more = 0;
        while (2 * (words.get(w).knownBy.size() + more) < people()) {
            more++;
        }
        return more;
    }

    /** Of everybody, by numbers. */
    List<List<Integer>> kept() {
        int second = call();
        List<List<Integer>> all = new ArrayList<>();
        for (int p = 0; p < people(); p++) {
            List<Integer> mine = written(p, second);
            mine.removeIf(w -> asked[VOTE] == 1 && words.get(w).kind == INVENTED && missingForHalf(w) > 0);
            all.add(mine);
        }
        return all;
    }

    private boolean hasIn(List<Integer> line, int column) {
        return line.stream().anyMatch(w -> words.get(w).column == column);
    }

    int points(int person, int column) {
        List<List<Integer>> kept = kept();
        int sum = 0;
        for (int w : kept.get(person)) {
            int c = words.get(w).column;
            if (column != NONE && column != c) {
                continue;
            }
            boolean alone = everybodyBut(person).stream().noneMatch(q -> hasIn(kept.get(q), c));
            boolean own = everybodyBut(person).stream().noneMatch(q -> kept.get(q).contains(w));
            sum += asked[alone ? ALONE : own ? OWN : ALIKE];
        }
        return sum;
    }

    int mostPoints(int besides) {
        return firstOfMost(everybodyBut(besides), p -> points(p, NONE));
    }

    // ---- what comes of it

    /** Points with this sheet, all others as they are. */
    private int pointsWith(int person, List<Integer> line) {
        List<Integer> told = sheets.set(person, line);
        int points = points(person, NONE);
        sheets.set(person, told);
        return points;
    }

    static int bits(Iterable<Integer> numbers) {
        int all = 0;
        for (int k : numbers) {
            all |= 1 << k;
        }
        return all;
    }

    private void allSets(int person, int from, List<Integer> set, List<List<Integer>> found) {
        if (from == words.size()) {
            found.add(new ArrayList<>(set));
            return;
        }
        allSets(person, from + 1, set, found);
        if (canBeOn(person, from, set)) {
            set.add(from);
            allSets(person, from + 1, set, found);
            set.remove(set.size() - 1);
        }
    }

    /** As it is written. */
    List<Integer> bestSheet(int person) {
        List<List<Integer>> sets = new ArrayList<>();
        allSets(person, 0, new ArrayList<>(), sets);
        sets.sort((x, y) -> Integer.compare(bits(x), bits(y)));
        for (List<Integer> set : sets) {
            set.sort((v, w) -> words.get(v).takes() != words.get(w).takes() ? words.get(v).takes() - words.get(w).takes() : v - w);
        }
        return sets.get(firstOfMost(below(sets.size()), k -> pointsWith(person, sets.get(k))));
    }

    int bestPoints(int person) {
        return pointsWith(person, bestSheet(person));
    }

    int bestCall(int person) {
        SlowEvening e = copy();
        e.sheets.set(person, bestSheet(person));
        return e.call();
    }

    private static void allOrders(List<Integer> left, List<Integer> line, List<List<Integer>> found) {
        if (left.isEmpty()) {
            found.add(new ArrayList<>(line));
        }
        for (int w : left) {
            List<Integer> rest = new ArrayList<>(left);
            rest.remove(Integer.valueOf(w));
            line.add(w);
            allOrders(rest, line, found);
            line.remove(line.size() - 1);
        }
    }

    List<Integer> bestOrder(int person) {
        List<Integer> numbers = new ArrayList<>(sheets.get(person));
        Collections.sort(numbers);
        List<List<Integer>> orders = new ArrayList<>();
        allOrders(numbers, new ArrayList<>(), orders);
        return orders.get(firstOfMost(below(orders.size()), k -> pointsWith(person, orders.get(k))));
    }

    int orderPoints(int person) {
        return pointsWith(person, bestOrder(person));
    }

    private List<Integer> withWord(int person, int w) {
        List<Integer> line = new ArrayList<>(sheets.get(person));
        for (int i = 0; i < line.size(); i++) {
            if (words.get(line.get(i)).column == words.get(w).column) {
                line.set(i, w);
                return line;
            }
        }
        line.add(w);
        return line;
    }

    int bestWord(int person, int column) {
        List<Integer> all = below(words.size());
        all.removeIf(w -> words.get(w).column != column || !canBeAlone(person, w));
        return firstOfMost(all, w -> pointsWith(person, withWord(person, w)));
    }

    private int pointsKnowing(int person, int w) {
        SlowEvening e = copy();
        e.words.get(w).knownBy.add(person);
        return e.bestPoints(person);
    }

    int learn(int person) {
        List<Integer> all = below(words.size());
        all.removeIf(w -> words.get(w).letter != asked[LETTER] || words.get(w).knownBy.contains(person));
        return firstOfMost(all, w -> pointsKnowing(person, w));
    }

    int learnMore(int person) {
        int w = learn(person);
        return w == NONE ? 0 : Math.max(0, pointsKnowing(person, w) - bestPoints(person));
    }

    int lonely(int letter) {
        List<Integer> all = below(words.size());
        all.removeIf(w -> words.get(w).letter != letter || words.get(w).knownBy.size() != 1);
        return bits(all);
    }

    int fills(int person, int letter) {
        TreeSet<Integer> filled = new TreeSet<>();
        for (int w = 0; w < words.size(); w++) {
            if (words.get(w).letter == letter && words.get(w).knownBy.contains(person) && !isBarred(w)) {
                filled.add(words.get(w).column);
            }
        }
        return filled.size();
    }

    int gains(int letter) {
        return firstOfMost(below(people()), p -> fills(p, letter));
    }

    static int silent(int letter, int rate, int second) {
        int at = letter;
        for (int k = 0; k < rate * second; k++) {
            at = at == 25 ? 0 : at + 1;
        }
        return at;
    }

    int stop(int letter, int rate, int person) {
        for (int second = 0; second < 26; second++) {
            int at = silent(letter, rate, second);
            if (everybodyBut(person).stream().allMatch(p -> fills(p, at) < fills(person, at))) {
                return second;
            }
        }
        return NONE;
    }

    int keptBy(int w) {
        List<List<Integer>> kept = kept();
        List<Integer> who = below(people());
        who.removeIf(p -> !kept.get(p).contains(w));
        return bits(who);
    }

    private int lead(int person, int need) {
        SlowEvening e = copy();
        e.asked[NEED] = need;
        int other = e.mostPoints(person);
        return e.points(person, NONE) - (other == NONE ? 0 : e.points(other, NONE));
    }

    int needFor(int person) {
        return firstOfMost(List.of(1, 2, 3, 4, 5), need -> lead(person, need));
    }

    int late(int person) {
        return Math.max(0, takes(whatCounts(person)) - call());
    }

    int clashes() {
        TreeSet<Integer> in = new TreeSet<>();
        for (int w = 0; w < words.size(); w++) {
            if (Integer.bitCount(keptBy(w)) >= 2) {
                in.add(words.get(w).column);
            }
        }
        return in.size();
    }

    int empty() {
        List<List<Integer>> kept = kept();
        return firstOfMost(below(columns), c -> -(int) kept.stream().filter(mine -> hasIn(mine, c)).count());
    }

    // ---- in truth

    int takeBest(int person) {
        int points = bestPoints(person);
        sheets.set(person, bestSheet(person));
        return points;
    }

    private void emptySheets() {
        sheets.forEach(List::clear);
    }

    int round() {
        int caller = caller();
        List<List<Integer>> kept = kept();
        List<Integer> grow = new ArrayList<>();
        for (int p = 0; p < people(); p++) {
            grow.add(points(p, NONE));
        }
        for (int p = 0; p < people(); p++) {
            scores.set(p, scores.get(p) + grow.get(p));
            kept.get(p).forEach(w -> words.get(w).used = true);
        }
        emptySheets();
        return caller;
    }

    private int draw(int n) {
        seed = (int) (seed * 1103515245L + 12345L);
        return (int) ((seed & 0xFFFFFFFFL) / 65536) % n;
    }

    int rounds(int n) {
        for (int k = 0; k < n; k++) {
            asked[LETTER] = draw(26);
            for (int p = 0; p < people(); p++) {
                takeBest(p);
            }
            round();
        }
        return firstOfMost(below(people()), scores::get);
    }

    int used() {
        return (int) words.stream().filter(w -> w.used).count();
    }

    int again() {
        int ahead = used();
        words.forEach(w -> w.used = false);
        Collections.fill(scores, 0);
        emptySheets();
        return ahead;
    }
}
