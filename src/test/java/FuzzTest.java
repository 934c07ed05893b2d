import java.lang.reflect.Method;
import java.lang.reflect.Modifier;
import java.util.ArrayList;
import java.util.Comparator;
import java.util.List;
import java.util.Random;

/**
 * Calls with any arguments in any state: none throws, a refusal is counted once and changes nothing
 * else, what is in thought changes nothing at all, and the same calls give the same answers.
 */
public final class FuzzTest {
    private static final int[] EXTREMES = {Integer.MIN_VALUE, Integer.MAX_VALUE, -2, 25, 26, 40, 41, 60, 255, 600, 601, 1000};
    private static final List<String> CHANGING = List.of("row", "set", "copy", "show", "columns", "word", "person", "knows",
        "ask", "sheet", "feed", "wipe", "evening", "swap", "takeBest", "round", "rounds", "again", "seed", "image", "back");
    /** Whose answers may be any number. */
    private static final List<String> FREE = List.of("element", "seed", "status");
    private static final int NOT_REFUSED = -1;
    private static final String[] TEXTS = {"columns ", "word ", "person", "knows ", "letter ", "need ", "bell ", "points ",
        "sheet ", ";", ";", "; ", " ", "0 ", "1 ", "2 ", "3 ", "5", "60 ", "600 ", "1000", "x", "A"};

    private static List<Method> face() {
        List<Method> all = new ArrayList<>();
        for (Method m : TownRiverBeast.class.getDeclaredMethods()) {
            if (Modifier.isPublic(m.getModifiers())) {
                all.add(m);
            }
        }
        all.sort(Comparator.comparing(Method::getName));
        return all;
    }

    private static Object[] arguments(Method m, Random r) {
        Class<?>[] types = m.getParameterTypes();
        Object[] all = new Object[types.length];
        for (int k = 0; k < types.length; k++) {
            if (types[k] == boolean.class) {
                all[k] = r.nextInt(4) != 0;
            } else if (types[k] == long.class) {
                all[k] = r.nextInt(3) == 0 ? r.nextLong() : (long) r.nextInt(24);
            } else {
                all[k] = r.nextInt(12) == 0 ? EXTREMES[r.nextInt(EXTREMES.length)] : r.nextInt(7) - (r.nextInt(8) == 0 ? 1 : 0);
            }
        }
        return all;
    }

    /** All that can be seen, but the refusals. */
    private static String seen(TownRiverBeast x) {
        StringBuilder all = new StringBuilder();
        for (int k = 0; k < 20; k++) {
            all.append(k >= 12 && k <= 16 ? 0 : x.status(k)).append(' ');
        }
        for (int w = 0; w < x.status(1); w++) {
            for (int k = 0; k < 8; k++) {
                all.append(x.wordOf(w, k)).append(' ');
            }
        }
        for (int p = 0; p < x.status(2); p++) {
            all.append(x.score(p)).append(':');
            for (int i = 0; i < x.sheetOf(p, -1); i++) {
                all.append(x.sheetOf(p, i)).append(' ');
            }
        }
        for (int s = 0; s < 8; s++) {
            all.append(x.holds(s)).append('=');
            for (int i = 0; i < 40; i++) {
                all.append(x.element(s, i)).append(' ');
            }
        }
        return all.toString();
    }

    private static int[] refusals(TownRiverBeast x) {
        int[] all = new int[5];
        for (int k = 0; k < 5; k++) {
            all[k] = x.status(12 + k);
        }
        return all;
    }

    private static long callOnce(TownRiverBeast x, Method m, Object[] with) {
        try {
            return ((Number) m.invoke(x, with)).longValue();
        } catch (ReflectiveOperationException e) {
            Check.due(m.getName() + java.util.Arrays.toString(with) + " threw " + e.getCause(), 0, 1);
            return 0;
        }
    }

    private static void judge(String call, String name, long answer, TownRiverBeast x, int[] ahead, String seenAhead) {
        int[] behind = refusals(x);
        int refused = NOT_REFUSED;
        if (!FREE.contains(name) && answer <= -2 && answer >= -6) {
            refused = (int) (-2 - answer);
        }
        boolean isFault = name.equals("evening") && answer <= -20;
        for (int k = 0; k < 5; k++) {
            int more = k == refused || (isFault && k == 0) ? 1 : 0;
            Check.due(call + " counts refusal " + (-2 - k), ahead[k] + more, behind[k]);
        }
        if (refused != NOT_REFUSED || !CHANGING.contains(name)) {
            Check.due(call + " changes nothing", 1, seen(x).equals(seenAhead) ? 1 : 0);
        }
    }

    private static void play(int seed, List<Method> face) {
        Random r = new Random(seed);
        TownRiverBeast x = new TownRiverBeast();
        TownRiverBeast y = new TownRiverBeast();
        for (int k = 0; k < 512; k++) {
            if (r.nextInt(25) == 0) {
                String text = TEXTS[r.nextInt(TEXTS.length)];
                Check.feed(x, text);
                Check.feed(y, text);
            }
            Method m = face.get(r.nextInt(face.size()));
            Object[] with = arguments(m, r);
            String call = "run " + seed + ": " + m.getName() + java.util.Arrays.toString(with);
            int[] ahead = refusals(x);
            String seenAhead = seen(x);
            long answer = callOnce(x, m, with);
            judge(call, m.getName(), answer, x, ahead, seenAhead);
            Check.due(call + " the same", answer, callOnce(y, m, with));
        }
    }

    /** As many sets of words as there can be, for the dearest calls. */
    private static void dearest() {
        TownRiverBeast x = new TownRiverBeast();
        x.columns(5);
        for (int w = 0; w < 24; w++) {
            x.word(w % 6, 0, w % 5, 1 + w % 7, w % 10);
        }
        x.ask(1, 5);
        for (int p = 0; p < 4; p++) {
            x.person();
            for (int w = 0; w < 24; w++) {
                x.knows(p, w, w % 6 != p);
            }
            x.takeBest(p);
        }
        for (int k = 0; k < 400; k++) {
            Check.due("dearest", x.learn(k % 4, 0), x.learn(k % 4, 0));
        }
        Check.due("dearest round", 1, x.rounds(9) >= 0 ? 1 : 0);
        Check.due("dearest again", 1, x.again() >= 0 ? 1 : 0);
    }

    public static void main(String[] args) {
        List<Method> face = face();
        Check.due("methods of the face", 51, face.size());
        for (int seed = 0; seed < 150; seed++) {
            play(seed, face);
        }
        dearest();
        Check.end();
    }
}
