import java.util.ArrayList;
import java.util.Arrays;
import java.util.List;
import java.util.Random;

/**
 * Long random runs against a second, slow program that follows the document's words one by one:
 * every set of words, every order, every second is tried.
 */
public final class ModelTest {
    private static final int NONE = -1;

    private record Word(int kind, int letter, int column, int seconds, int a) {
    }

    /** What the document calls the evening, held in lists. */
    private static final class Model {
        int columns = 4;
        List<Word> words = new ArrayList<>();
        List<boolean[]> knows = new ArrayList<>();
        List<Boolean> used = new ArrayList<>();
        List<List<Integer>> sheets = new ArrayList<>();
        List<Integer> scores = new ArrayList<>();
        int[] asked = {0, 4, 180, 20, 10, 5, 0, 0};
        int seed = 1;

        Model copy() {
            Model m = new Model();
            m.columns = columns;
            m.words = new ArrayList<>(words);
            for (boolean[] k : knows) {
                m.knows.add(k.clone());
            }
            m.used = new ArrayList<>(used);
            for (List<Integer> s : sheets) {
                m.sheets.add(new ArrayList<>(s));
            }
            m.scores = new ArrayList<>(scores);
            m.asked = asked.clone();
            m.seed = seed;
            return m;
        }

        int takes(int w) {
            Word x = words.get(w);
            if (x.kind == 1 || x.kind == 3) {
                return x.seconds < 2 ? 1 : x.seconds / 2;
            }
            int sum = x.seconds;
            if (x.kind == 2 || x.kind == 5) {
                sum += x.a;
            }
            return x.kind == 5 ? sum + 5 : sum;
        }

        int howManyKnow(int w) {
            int n = 0;
            for (boolean k : knows.get(w)) {
                n += k ? 1 : 0;
            }
            return n;
        }

        boolean could(int p, int w) {
            return words.get(w).letter == asked[0] && knows.get(w)[p] && !(asked[7] == 1 && used.get(w));
        }

        boolean fits(int p, List<Integer> line) {
            for (int i = 0; i < line.size(); i++) {
                int w = line.get(i);
                if (w < 0 || w >= words.size() || !could(p, w)) {
                    return false;
                }
                for (int j = 0; j < i; j++) {
                    if (words.get(line.get(j)).column == words.get(w).column) {
                        return false;
                    }
                }
            }
            return true;
        }

        List<Integer> written(int p, int second) {
            List<Integer> all = new ArrayList<>();
            int time = 0;
            for (int w : sheets.get(p)) {
                if (could(p, w)) {
                    time += takes(w);
                    if (time <= second) {
                        all.add(w);
                    }
                }
            }
            return all;
        }

        int call() {
            for (int second = 0; second < asked[2]; second++) {
                for (int p = 0; p < sheets.size(); p++) {
                    if (written(p, second).size() >= asked[1]) {
                        return second;
                    }
                }
            }
            return asked[2];
        }

        int caller() {
            for (int p = 0; p < sheets.size(); p++) {
                if (written(p, call()).size() >= asked[1]) {
                    return p;
                }
            }
            return NONE;
        }

        List<List<Integer>> kept() {
            int second = call();
            List<List<Integer>> all = new ArrayList<>();
            for (int p = 0; p < sheets.size(); p++) {
                List<Integer> mine = written(p, second);
                mine.removeIf(w -> asked[6] == 1 && words.get(w).kind == 4 && howManyKnow(w) * 2 < sheets.size());
                all.add(mine);
            }
            return all;
        }

        int points(int p, int column) {
            List<List<Integer>> kept = kept();
            int sum = 0;
            for (int w : kept.get(p)) {
                int c = words.get(w).column;
                boolean alone = true;
                boolean own = true;
                for (int q = 0; q < kept.size(); q++) {
                    if (q != p) {
                        own &= !kept.get(q).contains(w);
                        for (int v : kept.get(q)) {
                            alone &= words.get(v).column != c;
                        }
                    }
                }
                if (column == NONE || column == c) {
                    sum += alone ? asked[3] : own ? asked[4] : asked[5];
                }
            }
            return sum;
        }

        int leader(int besides) {
            int found = NONE;
            for (int p = 0; p < sheets.size(); p++) {
                if (p != besides && (found == NONE || points(p, NONE) > points(found, NONE))) {
                    found = p;
                }
            }
            return found;
        }

        /** Points, bits, the call, and then the words as they are written. */
        List<Integer> best(int person) {
            Model m = copy();
            int most = NONE;
            List<Integer> found = null;
            for (int set = 0; set < 1 << words.size(); set++) {
                List<Integer> line = new ArrayList<>();
                for (int w = 0; w < words.size(); w++) {
                    if ((set >> w & 1) == 1) {
                        line.add(w);
                    }
                }
                if (line.size() > 5 || !fits(person, line)) {
                    continue;
                }
                line.sort((v, w) -> takes(v) != takes(w) ? takes(v) - takes(w) : v - w);
                m.sheets.set(person, line);
                int points = m.points(person, NONE);
                if (points > most) {
                    most = points;
                    found = new ArrayList<>(List.of(points, set, m.call()));
                    found.addAll(line);
                }
            }
            return found;
        }

        List<Integer> order(int person) {
            Model m = copy();
            List<List<Integer>> all = new ArrayList<>();
            orders(new ArrayList<>(sheets.get(person)), new ArrayList<>(), all);
            all.sort((x, y) -> Arrays.compare(x.stream().mapToInt(k -> k).toArray(), y.stream().mapToInt(k -> k).toArray()));
            int most = NONE;
            List<Integer> found = null;
            for (List<Integer> line : all) {
                m.sheets.set(person, line);
                if (m.points(person, NONE) > most) {
                    most = m.points(person, NONE);
                    found = new ArrayList<>(List.of(most));
                    found.addAll(line);
                }
            }
            return found;
        }

        private static void orders(List<Integer> left, List<Integer> line, List<List<Integer>> all) {
            if (left.isEmpty()) {
                all.add(new ArrayList<>(line));
            }
            for (int i = 0; i < left.size(); i++) {
                List<Integer> rest = new ArrayList<>(left);
                line.add(rest.remove(i));
                orders(rest, line, all);
                line.remove(line.size() - 1);
            }
        }

        int bestWord(int person, int column) {
            int most = NONE;
            int found = NONE;
            for (int w = 0; w < words.size(); w++) {
                if (words.get(w).column != column || !could(person, w)) {
                    continue;
                }
                Model m = copy();
                List<Integer> line = m.sheets.get(person);
                boolean put = false;
                for (int i = 0; i < line.size(); i++) {
                    if (words.get(line.get(i)).column == column) {
                        line.set(i, w);
                        put = true;
                    }
                }
                if (!put) {
                    line.add(w);
                }
                if (m.points(person, NONE) > most) {
                    most = m.points(person, NONE);
                    found = w;
                }
            }
            return found;
        }

        int[] learn(int person) {
            int most = NONE;
            int found = NONE;
            for (int w = 0; w < words.size(); w++) {
                if (words.get(w).letter == asked[0] && !knows.get(w)[person]) {
                    Model m = copy();
                    m.knows.get(w)[person] = true;
                    int points = m.best(person).get(0);
                    if (points > most) {
                        most = points;
                        found = w;
                    }
                }
            }
            return new int[] {found, Math.max(0, most - best(person).get(0))};
        }

        int fills(int person, int letter) {
            int n = 0;
            for (int c = 0; c < columns; c++) {
                boolean any = false;
                for (int w = 0; w < words.size(); w++) {
                    any |= words.get(w).column == c && words.get(w).letter == letter && knows.get(w)[person]
                        && !(asked[7] == 1 && used.get(w));
                }
                n += any ? 1 : 0;
            }
            return n;
        }

        int stop(int letter, int rate, int person) {
            for (int second = 0; second < 26; second++) {
                int at = letter;
                for (int k = 0; k < second * rate; k++) {
                    at = at == 25 ? 0 : at + 1;
                }
                boolean most = true;
                for (int p = 0; p < sheets.size(); p++) {
                    most &= p == person || fills(p, at) < fills(person, at);
                }
                if (most) {
                    return second;
                }
            }
            return NONE;
        }

        int needFor(int person) {
            int found = NONE;
            int most = 0;
            for (int need = 1; need <= 5; need++) {
                Model m = copy();
                m.asked[1] = need;
                int other = m.leader(person);
                int lead = m.points(person, NONE) - (other == NONE ? 0 : m.points(other, NONE));
                if (found == NONE || lead > most) {
                    found = need;
                    most = lead;
                }
            }
            return found;
        }

        int late(int person) {
            int time = 0;
            for (int w : sheets.get(person)) {
                time += could(person, w) ? takes(w) : 0;
            }
            return Math.max(0, time - call());
        }

        int clashes() {
            List<List<Integer>> kept = kept();
            int n = 0;
            for (int c = 0; c < columns; c++) {
                boolean clash = false;
                for (int p = 0; p < kept.size(); p++) {
                    for (int q = 0; q < p; q++) {
                        for (int w : kept.get(p)) {
                            clash |= words.get(w).column == c && kept.get(q).contains(w);
                        }
                    }
                }
                n += clash ? 1 : 0;
            }
            return n;
        }

        int empty() {
            List<List<Integer>> kept = kept();
            int found = 0;
            int fewest = 99;
            for (int c = 0; c < columns; c++) {
                int n = 0;
                for (List<Integer> mine : kept) {
                    for (int w : mine) {
                        n += words.get(w).column == c ? 1 : 0;
                    }
                }
                if (n < fewest) {
                    fewest = n;
                    found = c;
                }
            }
            return found;
        }

        int round() {
            List<List<Integer>> kept = kept();
            int caller = caller();
            for (int p = 0; p < sheets.size(); p++) {
                scores.set(p, scores.get(p) + points(p, NONE));
            }
            for (int p = 0; p < sheets.size(); p++) {
                for (int w : kept.get(p)) {
                    used.set(w, true);
                }
                sheets.get(p).clear();
            }
            return caller;
        }

        int takeBest(int p) {
            List<Integer> found = best(p);
            sheets.set(p, new ArrayList<>(found.subList(3, found.size())));
            return found.get(0);
        }

        int rounds(int n) {
            for (int k = 0; k < n; k++) {
                seed = seed * 1103515245 + 12345;
                asked[0] = (seed >> 16 & 0xFFFF) % 26;
                for (int p = 0; p < sheets.size(); p++) {
                    takeBest(p);
                }
                round();
            }
            int found = 0;
            for (int p = 0; p < sheets.size(); p++) {
                found = scores.get(p) > scores.get(found) ? p : found;
            }
            return found;
        }
    }

    private static int bits(List<Integer> numbers) {
        int all = 0;
        for (int w : numbers) {
            all |= 1 << w;
        }
        return all;
    }

    private static void due(String what, long want, long got) {
        Check.due(what, want, got);
    }

    private static void compareAll(String run, TownRiverBeast x, Model m, Random r) {
        due(run + " call", m.sheets.isEmpty() ? -5 : m.call(), x.call());
        due(run + " caller", m.caller(), x.caller());
        due(run + " winner", m.sheets.isEmpty() ? -5 : m.leader(NONE), x.winner());
        due(run + " clashes", m.clashes(), x.clashes());
        due(run + " empty", m.empty(), x.empty());
        List<List<Integer>> kept = m.kept();
        for (int w = 0; w < m.words.size(); w++) {
            int by = 0;
            for (int p = 0; p < kept.size(); p++) {
                by |= kept.get(p).contains(w) ? 1 << p : 0;
            }
            due(run + " keptBy", by, x.keptBy(w));
            due(run + " takes", m.takes(w), x.wordOf(w, 7));
            due(run + " used", m.used.get(w) ? 1 : 0, x.wordOf(w, 6));
        }
        for (int p = 0; p < m.sheets.size(); p++) {
            comparePerson(run + " person " + p, x, m, p, r);
            due(run + " kept", bits(kept.get(p)), x.kept(p));
        }
    }

    private static void comparePerson(String run, TownRiverBeast x, Model m, int p, Random r) {
        int second = r.nextInt(100);
        due(run + " written", bits(m.written(p, second)), x.written(p, second));
        for (int c = -1; c < m.columns; c++) {
            due(run + " points", m.points(p, c), x.points(p, c));
        }
        for (int c = 0; c < m.columns; c++) {
            due(run + " bestWord", m.bestWord(p, c), x.bestWord(p, c));
        }
        List<Integer> best = m.best(p);
        for (int k = 0; k < 3; k++) {
            due(run + " best " + k, best.get(k), x.best(p, k));
        }
        List<Integer> order = m.order(p);
        for (int k = 0; k < order.size(); k++) {
            due(run + " order " + k, order.get(k), x.order(p, k - 1));
        }
        due(run + " rival", m.leader(p), x.rival(p));
        due(run + " needFor", m.needFor(p), x.needFor(p));
        due(run + " late", m.late(p), x.late(p));
        due(run + " score", m.scores.get(p), x.score(p));
        due(run + " size", m.sheets.get(p).size(), x.sheetOf(p, NONE));
        for (int i = 0; i < m.sheets.get(p).size(); i++) {
            due(run + " sheet", m.sheets.get(p).get(i), x.sheetOf(p, i));
        }
        int letter = r.nextInt(3);
        int rate = 1 + r.nextInt(26);
        due(run + " fills", m.fills(p, letter), x.fills(p, letter));
        due(run + " stop", m.stop(letter, rate, p), x.stop(letter, rate, p));
    }

    private static void compareLearn(String run, TownRiverBeast x, Model m) {
        for (int p = 0; p < m.sheets.size(); p++) {
            int[] learn = m.learn(p);
            due(run + " learn", learn[0], x.learn(p, 0));
            due(run + " learn more", learn[1], x.learn(p, 1));
        }
    }

    private static void begin(TownRiverBeast x, Model m, Random r, int words, int letters) {
        m.columns = 1 + r.nextInt(5);
        x.columns(m.columns);
        int people = 1 + r.nextInt(4);
        for (int p = 0; p < people; p++) {
            x.person();
            m.sheets.add(new ArrayList<>());
            m.scores.add(0);
        }
        int longest = r.nextBoolean() ? 8 : 60;
        for (int w = 0; w < words; w++) {
            Word word = new Word(r.nextInt(6), r.nextInt(letters), r.nextInt(m.columns), 1 + r.nextInt(longest), r.nextInt(10));
            m.words.add(word);
            m.used.add(false);
            m.knows.add(new boolean[4]);
            x.word(word.kind, word.letter, word.column, word.seconds, word.a);
            for (int p = 0; p < people; p++) {
                m.knows.get(w)[p] = r.nextInt(4) != 0;
                x.knows(p, w, m.knows.get(w)[p]);
            }
        }
    }

    private static void tellSheet(TownRiverBeast x, Model m, Random r, int p) {
        List<Integer> line = new ArrayList<>();
        int n = r.nextInt(6);
        for (int k = 0; k < 30 && line.size() < n; k++) {
            line.add(r.nextInt(m.words.size() + 1));
            if (r.nextInt(20) != 0 && !m.fits(p, line)) {
                line.remove(line.size() - 1);
            }
        }
        Check.row(x, 0, line.stream().mapToInt(k -> k).toArray());
        int wrong = NONE;
        for (int i = 0; i < line.size() && wrong == NONE; i++) {
            wrong = m.fits(p, line.subList(0, i + 1)) ? NONE : i;
        }
        due("judge", wrong, x.judge(0, line.size(), p));
        due("sheet", wrong == NONE ? line.size() : -5, x.sheet(0, line.size(), p));
        int sum = 0;
        for (int w : line) {
            sum += wrong == NONE ? m.takes(w) : 0;
        }
        due("takes", wrong == NONE ? sum : -5, x.takes(0, line.size(), p));
        if (wrong == NONE) {
            m.sheets.set(p, line);
        }
    }

    private static void change(TownRiverBeast x, Model m, Random r) {
        int p = r.nextInt(m.sheets.size());
        int w = r.nextInt(m.words.size());
        switch (r.nextInt(10)) {
            case 0 -> {
                m.knows.get(w)[p] ^= true;
                x.knows(p, w, m.knows.get(w)[p]);
            }
            case 1 -> {
                int[] most = {1, 5, 100, 50, 50, 50, 1, 1};
                int what = r.nextInt(8);
                int v = what == 1 || what == 2 ? 1 + r.nextInt(most[what]) : r.nextInt(most[what] + 1);
                due("ask", m.asked[what], x.ask(what, v));
                m.asked[what] = v;
            }
            case 2 -> due("takeBest", m.takeBest(p), x.takeBest(p));
            case 3 -> {
                if (r.nextInt(3) == 0) {
                    due("round", m.round(), x.round());
                }
            }
            case 4 -> {
                int n = m.sheets.get(p).size();
                if (n > 0) {
                    int i = r.nextInt(n);
                    int j = r.nextInt(n);
                    java.util.Collections.swap(m.sheets.get(p), i, j);
                    due("swap", m.sheets.get(p).get(i), x.swap(p, i, j));
                }
            }
            default -> tellSheet(x, m, r, p);
        }
    }

    private static void play(int seed) {
        Random r = new Random(seed);
        TownRiverBeast x = new TownRiverBeast();
        Model m = new Model();
        begin(x, m, r, 4 + r.nextInt(6), 1 + r.nextInt(2));
        for (int p = 0; p < m.sheets.size(); p++) {
            tellSheet(x, m, r, p);
        }
        for (int k = 0; k < 12; k++) {
            change(x, m, r);
            compareAll("run " + seed + " step " + k, x, m, r);
        }
        compareLearn("run " + seed, x, m);
    }

    private static void playRounds(int seed) {
        Random r = new Random(seed);
        TownRiverBeast x = new TownRiverBeast();
        Model m = new Model();
        begin(x, m, r, 12, 26);
        m.asked[7] = r.nextInt(2);
        x.ask(7, m.asked[7]);
        m.seed = r.nextInt();
        due("seed", 1, x.seed(m.seed));
        for (int k = 0; k < 3; k++) {
            int n = 1 + r.nextInt(9);
            due("rounds " + seed, m.rounds(n), x.rounds(n));
            due("seed", m.seed, x.status(17));
            due("letter", m.asked[0], x.status(3));
            for (int p = 0; p < m.sheets.size(); p++) {
                due("score " + seed, m.scores.get(p), x.score(p));
            }
        }
    }

    public static void main(String[] args) {
        for (int seed = 0; seed < 400; seed++) {
            play(seed);
        }
        for (int seed = 0; seed < 60; seed++) {
            playRounds(seed);
        }
        Check.end();
    }
}
