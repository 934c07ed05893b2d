import java.io.IOException;
import java.nio.charset.StandardCharsets;
import java.nio.file.Files;
import java.nio.file.Path;
import java.util.LinkedHashMap;
import java.util.Map;
import java.util.TreeSet;
import java.util.function.Supplier;
import java.util.function.ToLongFunction;

/** Tests of a sentence that names a boundary: which one it is, and what a call may change there. */
final class Boundary {
    static final int BAD = -2;
    static final int OTHER = -3;
    static final int NOTHING = -4;
    static final int STUCK = -5;
    static final int FULL = -6;
    static final int NONE = TownRiverBeast.NONE;
    static final int LOW = Integer.MIN_VALUE;
    static final int HIGH = Integer.MAX_VALUE;
    /** The numbers by which at() tells the document's Terms and what stands ahead of these. */
    static final int TERMS = 0;
    static final int WHAT_IT_IS = -1;

    private static final Path DOCUMENT = Path.of("../shared/DOC.md");
    private static final int FIRST_REFUSALS = 12;
    /** No status tells how many there were of it. */
    private static final int NO_REFUSAL = 100;
    private static final TreeSet<Integer> NAMED = new TreeSet<>();
    private static String document = null;
    private static String where = "";

    private Boundary() {
    }

    /** What follows tests this sentence; it must stand in the document under the promise's number. */
    static void at(int promise, String sentence) {
        where = heading(promise) + " \"" + sentence + "\"";
        NAMED.add(promise);
        // Where the document isn't at hand the answers can be tested all the same.
        if (Files.exists(DOCUMENT)) {
            Check.due(where + " stands in DOC.md", 1, section(promise).contains(sentence) ? 1 : 0);
        }
    }

    private static String heading(int promise) {
        if (promise == WHAT_IT_IS) {
            return "What it is";
        }
        return promise == TERMS ? "Terms" : "Promise " + promise + ":";
    }

    private static String section(int promise) {
        if (document == null) {
            try {
                document = Files.readString(DOCUMENT, StandardCharsets.UTF_8);
            } catch (IOException e) {
                throw new IllegalStateException("no document at " + DOCUMENT.toAbsolutePath(), e);
            }
        }
        int from = document.indexOf("\n## " + heading(promise));
        int to = document.indexOf("\n## ", from + 1);
        return from < 0 ? "" : document.substring(from, to < 0 ? document.length() : to);
    }

    static void due(String how, long want, long got) {
        Check.due(where + ": " + how, want, got);
    }

    /** The call answers the refusal; nothing changes but how many there were. */
    static void refused(String how, int want, Supplier<TownRiverBeast> world, ToLongFunction<TownRiverBeast> call) {
        changesNothing(how, want, want, world, call);
    }

    /** The call answers, isn't refused, and changes nothing. */
    static void told(String how, long want, Supplier<TownRiverBeast> world, ToLongFunction<TownRiverBeast> call) {
        changesNothing(how, want, NO_REFUSAL, world, call);
    }

    private static void changesNothing(String how, long want, int refusal, Supplier<TownRiverBeast> world,
            ToLongFunction<TownRiverBeast> call) {
        TownRiverBeast x = world.get();
        due(how, want, call.applyAsLong(x));
        sameBut(how, refusal, x, world.get());
        hiddenStays(how + ", tape", refusal, world, call, TownRiverBeast::evening);
        hiddenStays(how + ", image", refusal, world, call, TownRiverBeast::back);
    }

    /** What can't be told at once shows by a second call that brings it to light. */
    private static void hiddenStays(String how, int refusal, Supplier<TownRiverBeast> world,
            ToLongFunction<TownRiverBeast> call, ToLongFunction<TownRiverBeast> light) {
        TownRiverBeast x = world.get();
        TownRiverBeast twin = world.get();
        call.applyAsLong(x);
        due(how, light.applyAsLong(twin), light.applyAsLong(x));
        sameBut(how, refusal, x, twin);
    }

    /** An evening with a fault: the tape is empty then, and nothing else changes but one more BAD. */
    static void fault(String text, int place, Supplier<TownRiverBeast> world) {
        String how = "evening of '" + text + "'";
        TownRiverBeast x = world.get();
        TownRiverBeast twin = world.get();
        Check.feed(x, text);
        Check.feed(twin, text);
        due(how, -20 - place, x.evening());
        twin.wipe();
        sameBut(how, BAD, x, twin);
        due(how + ", image", twin.back(), x.back());
        sameBut(how + ", image", BAD, x, twin);
    }

    /** All that can be told of both is the same, behind back() too. */
    static void alike(String how, TownRiverBeast x, TownRiverBeast twin) {
        sameBut(how, NO_REFUSAL, x, twin);
        due(how + ", image", twin.back(), x.back());
        sameBut(how + ", image", NO_REFUSAL, x, twin);
    }

    private static void sameBut(String how, int refusal, TownRiverBeast x, TownRiverBeast twin) {
        Map<String, Long> got = view(x);
        Map<String, Long> want = view(twin);
        due(how + ", how much there is", want.size(), got.size());
        want.forEach((name, value) -> {
            boolean isMore = name.equals("status " + (FIRST_REFUSALS + BAD - refusal));
            due(how + ", then " + name, value + (isMore ? 1 : 0), got.getOrDefault(name, Long.MIN_VALUE + 1));
        });
    }

    /** All that can be told without a change, but elements 6 to 38 of rows. */
    private static Map<String, Long> view(TownRiverBeast x) {
        Map<String, Long> all = new LinkedHashMap<>();
        for (int k = 0; k < 20; k++) {
            all.put("status " + k, (long) x.status(k));
        }
        for (int w = 0; w < x.status(1); w++) {
            for (int k = 0; k < 7; k++) {
                all.put("wordOf " + w + " " + k, (long) x.wordOf(w, k));
            }
        }
        for (int p = 0; p < x.status(2); p++) {
            all.put("score " + p, (long) x.score(p));
            for (int i = NONE; i < x.sheetOf(p, NONE); i++) {
                all.put("sheetOf " + p + " " + i, (long) x.sheetOf(p, i));
            }
        }
        for (int s = 0; s < 8; s++) {
            all.put("holds " + s, (long) x.holds(s));
            for (int i = 0; i < 7; i++) {
                int place = i == 6 ? 39 : i;
                all.put("element " + s + " " + place, x.element(s, place));
            }
        }
        return all;
    }

    /** Every promise from one to another has had a sentence. */
    static void covers(int from, int to) {
        for (int promise = from; promise <= to; promise++) {
            Check.due("promise " + promise + " has a test of a boundary", 1, NAMED.contains(promise) ? 1 : 0);
        }
    }
}
