import java.lang.reflect.Method;
import java.util.ArrayList;
import java.util.Arrays;
import java.util.List;
import java.util.Map;
import java.util.Random;
import java.util.TreeMap;

/**
 * Random runs of 512 calls of the whole face, each answer against a second, slow program that follows the
 * document's words one by one (SlowBeast): every set of words, every order, every second is tried there.
 */
public final class ModelTest {
    private static final int NONE = -1;
    private static final int CALLS = 512;
    private static final Map<String, Method> FAST = methodsOf(TownRiverBeast.class);
    private static final Map<String, Method> SLOW = methodsOf(SlowBeast.class);
    /** For each call how many were answered, and how many refused. */
    private static final Map<String, int[]> SEEN = new TreeMap<>();
    private static final int[] STRANGE = {-2, -1, 0, 1, 5, 6, 7, 8, 9, 10, 24, 25, 26, 27, 39, 40, 41, 50, 51, 60, 61, 100, 255,
        256, 600, 601, 1000, 1001, Integer.MIN_VALUE, Integer.MAX_VALUE};
    private static final String[] NAMES = {"columns", "word", "person", "knows", "letter", "need", "bell", "points", "sheet"};

    private final Random r;
    private final int number;
    private final TownRiverBeast x = new TownRiverBeast();
    private final SlowBeast slow = new SlowBeast();
    private final int letters;
    private final int longest;
    private int calls = 0;

    private ModelTest(int number) {
        this.number = number;
        // Seeds that follow one another begin alike.
        r = new Random(number * 0x9E3779B97F4A7C15L);
        letters = 1 + r.nextInt(4);
        longest = r.nextBoolean() ? 8 : 60;
    }

    private static Map<String, Method> methodsOf(Class<?> c) {
        Map<String, Method> all = new TreeMap<>();
        for (Method m : c.getDeclaredMethods()) {
            m.setAccessible(true);
            all.put(m.getName(), m);
        }
        return all;
    }

    private static long answer(Map<String, Method> methods, Object to, String name, Object... arguments) {
        try {
            return ((Number) methods.get(name).invoke(to, arguments)).longValue();
        } catch (ReflectiveOperationException e) {
            throw new IllegalStateException(name + Arrays.toString(arguments), e);
        }
    }

    /** A call of both; behind the 512th answers are free, and none is compared. */
    private void both(String name, Object... arguments) {
        if (calls >= CALLS) {
            return;
        }
        calls++;
        int before = refusals();
        long want = answer(SLOW, slow, name, arguments);
        SEEN.computeIfAbsent(name, k -> new int[2])[refusals() - before]++;
        Check.due("run " + number + " call " + calls + ": " + name + Arrays.toString(arguments), want,
            answer(FAST, x, name, arguments));
    }

    private int refusals() {
        int sum = 0;
        for (int k = 12; k <= 16; k++) {
            sum += slow.status(k);
        }
        return sum;
    }

    private int strange() {
        return STRANGE[r.nextInt(STRANGE.length)];
    }

    private int between(int least, int most) {
        return most < least ? least : least + r.nextInt(most - least + 1);
    }

    /** Mostly what may be. */
    private Object argument(String call, String parameter) {
        if (parameter.equals("boolean is")) {
            return r.nextInt(4) != 0;
        }
        if (parameter.equals("long v")) {
            return r.nextInt(3) == 0 ? r.nextLong() : (long) between(NONE, slow.status(1));
        }
        if (call.equals("seed")) {
            return r.nextInt();
        }
        return r.nextInt(25) == 0 ? strange() : likely(call, parameter.substring("int ".length()));
    }

    private int likely(String call, String name) {
        switch (name) {
            case "s", "p", "q": return likelyShelf(call);
            case "sort": return r.nextBoolean() ? 2 : between(0, 4);
            case "n": return call.equals("columns") ? between(1, 5) : call.equals("rounds") ? between(1, 2) : manyOf(call);
            case "i", "j": return between(call.equals("sheetOf") || call.equals("order") ? NONE : 0, 3);
            case "word": return between(r.nextInt(9) == 0 ? NONE : 0, slow.status(1) - 1);
            case "kind": return between(0, 5);
            case "column": return between(call.equals("points") ? NONE : 0, slow.status(0) - 1);
            case "seconds": return between(1, longest);
            case "a": return between(0, 9);
            case "person": return between(0, slow.status(2) - 1);
            case "letter": return call.equals("feed") ? between('a', 'z') : between(0, letters - 1);
            case "what": return between(0, call.equals("status") ? 19 : call.equals("best") ? 2 : call.equals("learn") ? 1 : 7);
            case "second": return between(0, 100);
            case "rate": return between(1, 26);
            default: return call.equals("ask") ? strange() : between(0, 60);
        }
    }

    /** Mostly rows are on the first shelves and words on the last ones. */
    private int likelyShelf(String call) {
        if (r.nextInt(6) == 0) {
            return between(0, 7);
        }
        return List.of("show", "says").contains(call) ? between(5, 7) : between(0, 2);
    }

    private int manyOf(String call) {
        return call.equals("row") ? between(0, r.nextInt(4) == 0 ? 40 : 9) : between(0, call.equals("copy") ? 3 : 6);
    }

    private void anyCall() {
        String method = Face.METHODS[r.nextInt(Face.METHODS.length)];
        String name = Face.name(method);
        // Most that there is would soon be gone or away by these.
        if (List.of("again", "back", "round", "rounds", "evening").contains(name) && r.nextInt(6) != 0) {
            return;
        }
        List<Object> arguments = new ArrayList<>();
        for (String parameter : Face.parameters(method)) {
            arguments.add(argument(name, parameter));
        }
        both(name, arguments.toArray());
        if (slow.status(3) >= letters) {
            both("ask", 0, between(0, letters - 1));
        }
    }

    private void ask() {
        int[][] mayBe = {{0, letters - 1}, {1, 5}, {1, 80}, {0, 50}, {0, 50}, {0, 50}, {0, 1}, {0, 1}};
        int what = r.nextInt(8);
        both("ask", what, between(mayBe[what][0], mayBe[what][1]));
    }

    /** Words of the letter that the person knows, most of them of columns of their own. */
    private List<Integer> line(int person) {
        List<Integer> all = new ArrayList<>();
        int columns = 0;
        for (int w = 0; w < slow.status(1); w++) {
            boolean isKnown = (slow.wordOf(w, 5) >> person & 1) == 1 && slow.wordOf(w, 1) == slow.status(3);
            boolean isTaken = (columns >> slow.wordOf(w, 2) & 1) == 1;
            if (all.size() < 5 && r.nextInt(4) != 0 && (isKnown && !isTaken || r.nextInt(60) == 0)) {
                all.add(w);
                columns |= 1 << slow.wordOf(w, 2);
            }
        }
        java.util.Collections.shuffle(all, r);
        return all;
    }

    private void tellSheet() {
        int person = between(0, slow.status(2) - 1);
        List<Integer> line = line(Math.max(0, person));
        both("row", 0, between(0, 3), line.size());
        for (int i = 0; i < line.size(); i++) {
            both("set", 0, i, (long) line.get(i));
        }
        both("judge", 0, line.size(), person);
        both("takes", 0, line.size(), person);
        both("sheet", 0, line.size(), person);
    }

    private String blanks() {
        return " ".repeat(r.nextInt(12) == 0 ? r.nextInt(4) : 1);
    }

    private String statement(String name) {
        StringBuilder text = new StringBuilder(name);
        int[][] mayBe = switch (name) {
            case "columns" -> new int[][] {{1, 5}};
            case "word" -> new int[][] {{0, 5}, {0, letters - 1}, {0, slow.status(0) - 1}, {1, longest}, {0, 9}};
            case "knows" -> new int[][] {{0, slow.status(2) - 1}, {0, slow.status(1) - 1}};
            case "letter" -> new int[][] {{0, letters - 1}};
            case "need" -> new int[][] {{1, 5}};
            case "bell" -> new int[][] {{1, 60}};
            case "points" -> new int[][] {{0, 50}, {0, 50}, {0, 50}};
            default -> new int[0][];
        };
        for (int[] range : mayBe) {
            text.append(blanks()).append(r.nextInt(40) == 0 ? strange() : between(range[0], range[1]));
        }
        if (name.equals("sheet")) {
            int person = between(0, slow.status(2) - 1);
            text.append(blanks()).append(person);
            line(Math.max(0, person)).forEach(w -> text.append(blanks()).append(w));
        }
        return text.toString();
    }

    /** Mostly an evening, now and then with a byte that is another or isn't there. */
    private void tellEvening() {
        both("wipe");
        StringBuilder text = new StringBuilder();
        int n = 1 + r.nextInt(5);
        for (int k = 0; k < n; k++) {
            text.append(k == 0 ? "" : r.nextInt(10) == 0 ? " ; " : ";").append(statement(NAMES[r.nextInt(NAMES.length)]));
        }
        if (r.nextInt(3) == 0) {
            int at = r.nextInt(text.length());
            if (r.nextBoolean()) {
                text.deleteCharAt(at);
            } else {
                text.setCharAt(at, "0;w 9?".charAt(r.nextInt(6)));
            }
        }
        tell(text.toString());
    }

    private void tell(String text) {
        for (int i = 0; i < text.length(); i++) {
            both("feed", (int) text.charAt(i));
        }
        both("evening");
    }

    private void begin() {
        both("columns", r.nextInt(4) == 0 ? between(1, 5) : between(3, 5));
        int people = r.nextInt(12) == 0 ? 0 : between(1, 4);
        for (int p = 0; p < people; p++) {
            both("person");
        }
        int words = r.nextInt(15) == 0 ? 0 : between(1 + 3 * r.nextInt(letters + 1), Math.min(24, 9 * letters));
        for (int w = 0; w < words; w++) {
            int letter = r.nextBoolean() ? 0 : between(0, letters - 1);
            both("word", between(0, 5), letter, between(0, slow.status(0) - 1), between(1, longest), between(0, 9));
            for (int p = 0; p < people; p++) {
                if (r.nextInt(4) != 0) {
                    both("knows", p, w, true);
                }
            }
        }
        for (int p = 0; p < people; p++) {
            tellSheet();
        }
    }

    private void play() {
        begin();
        int texts = r.nextInt(3);
        for (int k = 0; k < CALLS && calls < CALLS; k++) {
            switch (r.nextInt(16)) {
                case 0, 1, 2 -> tellSheet();
                case 3 -> ask();
                case 4 -> {
                    if (texts > 0) {
                        texts--;
                        tellEvening();
                    }
                }
                default -> anyCall();
            }
        }
    }

    /** Texts alone, each on the same object as the one ahead. */
    private void playTexts() {
        for (int k = 0; k < 60 && calls < CALLS; k++) {
            tellEvening();
        }
    }

    public static void main(String[] args) {
        for (int run = 0; run < 500; run++) {
            new ModelTest(run).play();
        }
        for (int run = 500; run < 1500; run++) {
            new ModelTest(run).playTexts();
        }
        for (String method : Face.METHODS) {
            int[] seen = SEEN.getOrDefault(Face.name(method), new int[2]);
            Check.due(method + " is answered often", 1, seen[0] > 100 ? 1 : 0);
            if (args.length > 0) {
                System.out.println(method + ": " + seen[0] + " answered, " + seen[1] + " refused");
            }
        }
        Check.end();
    }
}
