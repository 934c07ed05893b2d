import java.util.function.Consumer;
import java.util.function.Supplier;

/**
 * The document read once more from its first line: sentences that no other test names, and for each promise an
 * answer that was worked out by hand from its words, of one evening (Worlds.story) and what becomes of it.
 */
public final class ReadingTest {
    private static final int BAD = Boundary.BAD;
    private static final int OTHER = Boundary.OTHER;
    private static final int STUCK = Boundary.STUCK;
    private static final int NONE = Boundary.NONE;
    private static final int TERMS = Boundary.TERMS;
    private static final int LETTER = 0;
    private static final int NEED = 1;
    private static final int BELL = 2;
    private static final int VOTE = 6;
    private static final int BAR = 7;
    private static final Supplier<TownRiverBeast> STORY = Worlds::story;

    /** The story, but for one change. */
    private static Supplier<TownRiverBeast> storyBut(Consumer<TownRiverBeast> change) {
        return () -> {
            TownRiverBeast x = Worlds.story();
            change.accept(x);
            return x;
        };
    }

    // ---- the terms

    private static void words() {
        Boundary.at(TERMS, "WORDS have numbers, 0 on, 24 at most, each of a KIND");
        TownRiverBeast x = new TownRiverBeast();
        for (int kind = 0; kind < 6; kind++) {
            Boundary.due("its number", 2 * kind, x.word(kind, 20 + kind, kind % 4, 10 + kind, kind + 4));
            Boundary.due("by a text", 1, Check.evening(x, "word " + kind + " " + (9 - kind) + " " + (3 - kind % 4) + " 60 " + kind));
        }
        for (int kind = 0; kind < 6; kind++) {
            Boundary.due("KIND", kind, x.wordOf(2 * kind, 0));
            Boundary.due("KIND by a text", kind, x.wordOf(2 * kind + 1, 0));
        }
        Boundary.at(TERMS, "a LETTER, a COLUMN, SECONDS (1 to 60), a (0 to 9)");
        for (int kind = 0; kind < 6; kind++) {
            int[] wants = {20 + kind, kind % 4, 10 + kind, kind + 4};
            int[] byText = {9 - kind, 3 - kind % 4, 60, kind};
            for (int k = 0; k < 4; k++) {
                Boundary.due("of word " + 2 * kind, wants[k], x.wordOf(2 * kind, k + 1));
                Boundary.due("of word " + (2 * kind + 1), byText[k], x.wordOf(2 * kind + 1, k + 1));
            }
        }
    }

    private static void sheetsAndNeed() {
        Boundary.at(TERMS, "PEOPLE have numbers, 0 on, 4 at most: a SHEET: WORDS in the order in which they'd be written");
        TownRiverBeast x = Worlds.story();
        Boundary.due("slow first", 0, x.written(1, 8));
        Check.sheet(x, 1, 3, 1, 0);
        Boundary.due("another order", 8, x.written(1, 8));
        Boundary.due("of one person alone", 0, x.written(0, 5));
        Boundary.at(TERMS, "NEED (1 to 5; 4 at first): with how many WORDS one calls.");
        int[] seconds = {1, 3, 7, 15, 31};
        for (int need = 1; need <= 5; need++) {
            TownRiverBeast y = Worlds.knowing(1, 1, 2, 4, 8, 16);
            y.ask(NEED, need);
            Boundary.due("five words", 5, Check.sheet(y, 0, 0, 1, 2, 3, 4));
            Boundary.due("the call", seconds[need - 1], y.call());
            Boundary.due("who calls", 0, y.caller());
            Check.evening(y, "sheet 0 0 1 2 3".substring(0, 5 + 2 * need));
            Boundary.due("one word fewer: the bell", 180, y.call());
            Boundary.due("one word fewer: nobody", NONE, y.caller());
        }
        Boundary.at(TERMS, "POINTS: ALONE in a COLUMN (0 to 50; 20 at first), OWN (10 at first), ALIKE (5 at first)");
        x = Worlds.story();
        x.ask(3, 1);
        Boundary.due("ALONE is 1", 21, x.points(0, NONE));
        x.ask(4, 2);
        Boundary.due("OWN is 2", 13, x.points(0, NONE));
        x.ask(5, 7);
        Boundary.due("ALIKE is 7: it isn't the most that counts", 17, x.points(0, NONE));
    }

    /** The text does just what the calls do. */
    private static void sameAs(String text, int statements, Consumer<TownRiverBeast> calls) {
        TownRiverBeast x = Worlds.story();
        TownRiverBeast twin = Worlds.story();
        Boundary.due("'" + text + "'", statements, Check.evening(x, text));
        calls.accept(twin);
        Boundary.alike("'" + text + "'", x, twin);
    }

    private static void statements() {
        Boundary.at(TERMS, "word K L C S A; person; knows P W; letter L; need N; bell N; points A O E; sheet P, and 0 to 5 W");
        sameAs("word 5 25 3 60 9", 1, x -> x.word(5, 25, 3, 60, 9));
        sameAs("person", 1, TownRiverBeast::person);
        sameAs("knows 2 6", 1, x -> x.knows(2, 6, true));
        sameAs("knows 2 4", 1, x -> x.knows(2, 4, true));
        sameAs("letter 3", 1, x -> x.ask(LETTER, 3));
        sameAs("need 2", 1, x -> x.ask(NEED, 2));
        sameAs("bell 33", 1, x -> x.ask(BELL, 33));
        sameAs("points 9 8 7", 1, x -> {
            x.ask(3, 9);
            x.ask(4, 8);
            x.ask(5, 7);
        });
        sameAs("sheet 1 1 0", 1, x -> {
            Check.sheet(x, 1, 1, 0);
            x.show(7, NONE);
        });
        sameAs("knows 2 0;sheet 2 0;knows 0 6;letter 3;sheet 0 6;need 1", 6, x -> {
            x.knows(2, 0, true);
            Check.sheet(x, 2, 0);
            x.knows(0, 6, true);
            x.ask(LETTER, 3);
            Check.sheet(x, 0, 6);
            x.ask(NEED, 1);
            x.show(7, NONE);
        });
    }

    private static void writtenAndPoints() {
        Boundary.at(TERMS, "A person has WRITTEN a WORD by a second, if that isn't less than TAKES of it and all ahead of it together.");
        int[][] wants = {{0, 0}, {5, 0}, {6, 2}, {14, 2}, {15, 3}, {29, 3}, {30, 7}, {46, 7}, {47, 39}, {600, 39}};
        for (int[] want : wants) {
            Boundary.told("by " + want[0], want[1], STORY, x -> x.written(0, want[0]));
        }
        Boundary.at(TERMS, "POINTS of a KEPT WORD: ALONE, if nobody else has KEPT one in its COLUMN; else OWN, if nobody else has KEPT it; else ALIKE.");
        int[][] points = {{5, 5, 10, 20}, {5, 5, 5, 0}, {10, 0, 5, 0}};
        for (int p = 0; p < 3; p++) {
            for (int c = 0; c < 4; c++) {
                int person = p;
                int column = c;
                Boundary.told("person " + p + " column " + c, points[p][c], STORY, x -> x.points(person, column));
            }
        }
        Boundary.told("a word that isn't written is nobody's", 20, storyBut(x -> x.ask(BELL, 8)), x -> x.points(2, 0));
        Boundary.told("nor its column", 20, storyBut(x -> x.ask(BELL, 8)), x -> x.points(0, 1));
    }

    private static void inThought() {
        Boundary.at(TERMS, "BEST WORD for a COLUMN, the SHEET as it is but for that COLUMN");
        Supplier<TownRiverBeast> three = () -> Worlds.of("need 5;bell 20;word 0 0 0 9 0;word 0 0 1 6 0;word 0 0 0 30 0;person;person;"
            + "knows 0 0;knows 0 1;knows 0 2;knows 1 0;sheet 0 2 1;sheet 1 0");
        Boundary.told("25 points, not 0", 0, three, x -> x.bestWord(0, 0));
        Boundary.told("25 points, not 0, by a second", 0, () -> bell(three.get(), 29), x -> x.bestWord(0, 0));
        Boundary.told("25 points, not 10", 0, () -> bell(three.get(), 35), x -> x.bestWord(0, 0));
        Boundary.told("30 points, not 25", 2, () -> bell(three.get(), 36), x -> x.bestWord(0, 0));
        Boundary.at(TERMS, "LEARN: of all WORDS that a person doesn't KNOW, of THE LETTER, that by KNOWING which POINTS by the BEST SHEET "
            + "would be most, of several the first; by how much more.");
        int[][] learn = {{3, 0}, {5, 20}, {1, 5}};
        for (int p = 0; p < 3; p++) {
            int person = p;
            Boundary.told("person " + p, learn[p][0], STORY, x -> x.learn(person, 0));
            Boundary.told("person " + p + ", more", learn[p][1], STORY, x -> x.learn(person, 1));
        }
        Boundary.at(TERMS, "FILLS of a person by a LETTER: in how many COLUMNS they KNOW a WORD of it (not barred).");
        int[] fills = {4, 3, 2};
        for (int p = 0; p < 3; p++) {
            int person = p;
            Boundary.told("person " + p, fills[p], STORY, x -> x.fills(person, 17));
            Boundary.told("person " + p + ", by another", 0, STORY, x -> x.fills(person, 3));
            Boundary.told("barred", 0, storyBut(ReadingTest::usedAndBarred), x -> x.fills(person, 17));
            Boundary.told("used, not barred", fills[p], storyBut(TownRiverBeast::round), x -> x.fills(person, 17));
        }
        Boundary.at(TERMS, "THE SILENT ALPHABET from a LETTER on, so many LETTERS a second (1 to 26)");
        Boundary.told("z is followed by a", 0, STORY, x -> x.silent(17, 1, 9));
        Boundary.told("three a second", 4, STORY, x -> x.silent(24, 3, 2));
        Boundary.at(TERMS, "A told SHEET: a ROW of WORDS:");
        for (int sort = 0; sort < 4; sort++) {
            int rowSort = sort;
            Supplier<TownRiverBeast> told = storyBut(x -> tell(x, rowSort, 1, 0, 2, 5));
            Boundary.told("sort " + sort, NONE, told, x -> x.judge(0, 4, 0));
            Boundary.told("sort " + sort + ", of another", 2, told, x -> x.judge(0, 4, 1));
            Boundary.told("sort " + sort + ", takes", 47, told, x -> x.takes(0, 4, 0));
        }
        Boundary.told("booleans: words 1 and 0", 15, storyBut(x -> tell(x, 4, 7, 0)), x -> x.takes(0, 2, 0));
    }

    private static void usedAndBarred(TownRiverBeast x) {
        x.round();
        x.ask(BAR, 1);
    }

    private static TownRiverBeast bell(TownRiverBeast x, int seconds) {
        x.ask(BELL, seconds);
        return x;
    }

    private static void tell(TownRiverBeast x, int sort, int... numbers) {
        x.row(0, sort, numbers.length);
        for (int i = 0; i < numbers.length; i++) {
            x.set(0, i, numbers[i]);
        }
    }

    private static void refusals() {
        Boundary.at(TERMS, "REFUSALS (the call answers the number; nothing changes but how many there were");
        TownRiverBeast x = Worlds.story();
        int[] calls = {x.score(3), x.row(8, 0, 0), x.columns(0), x.show(0, 0), x.set(0, 0, 0), x.set(1, 0, 0), x.columns(4), x.back()};
        int[] wants = {BAD, BAD, BAD, 1, OTHER, -4, STUCK, STUCK};
        int[] counts = {3, 1, 1, 2, 0};
        for (int k = 0; k < calls.length; k++) {
            Boundary.due("call " + k, wants[k], calls[k]);
        }
        for (int k = 0; k < counts.length; k++) {
            Boundary.due("how many of " + (-2 - k), counts[k], x.status(12 + k));
        }
    }

    // ---- the promises

    private static void shelves() {
        Boundary.at(4, "n elements of the ROW in SHELF p from place i on come to places j on of that in q (as they were): n");
        TownRiverBeast x = new TownRiverBeast();
        Check.row(x, 0, 10, 11, 12, 13, 14);
        Check.row(x, 1, 20, 21, 22);
        Boundary.due("to another", 2, x.copy(0, 1, 3, 1, 2));
        elements(x, 1, 20, 13, 14);
        Boundary.due("to itself, up", 4, x.copy(0, 0, 0, 1, 4));
        elements(x, 0, 10, 10, 11, 12, 13);
        Boundary.due("to itself, down", 3, x.copy(0, 0, 2, 0, 3));
        elements(x, 0, 11, 12, 13, 12, 13);
        Boundary.at(5, "Element i of the ROW");
        elements(x, 1, 20, 13, 14, 0);
        Boundary.at(6, "What SHELF s holds: NONE NOTHING, no SHELF");
        Boundary.due("ints", 2, x.holds(0));
        Boundary.due("NOTHING", NONE, x.holds(2));
        Boundary.due("no SHELF", NONE, x.holds(8));
    }

    private static void elements(TownRiverBeast x, int s, int... wants) {
        for (int i = 0; i < wants.length; i++) {
            Boundary.due("element " + i, wants[i], x.element(s, i));
        }
    }

    /** Of each word of the story what it says, taken for one of each kind. */
    private static void kinds() {
        Boundary.at(8, "What the WORD in SHELF s, taken for one of a KIND, says: WORD what it TAKES");
        int[][] wants = {{9, OTHER, OTHER, OTHER, OTHER, OTHER}, {6, 2, OTHER, OTHER, OTHER, OTHER}, {15, OTHER, 1, OTHER, OTHER, OTHER},
            {4, 2, OTHER, 0, OTHER, OTHER}, {5, OTHER, OTHER, OTHER, 0, OTHER}, {17, OTHER, 1, OTHER, OTHER, 4}};
        for (int w = 0; w < 6; w++) {
            int word = w;
            for (int k = 0; k < 6; k++) {
                int kind = k;
                Supplier<TownRiverBeast> shown = storyBut(x -> x.show(3, word));
                if (wants[w][k] == OTHER) {
                    Boundary.refused("word " + w + " for " + k, OTHER, shown, x -> x.says(3, kind));
                } else {
                    Boundary.told("word " + w + " for " + k, wants[w][k], shown, x -> x.says(3, kind));
                }
            }
        }
        Boundary.told("AVOIDED, on one sheet", 1, storyBut(x -> avoidedOnOne(x)), x -> x.says(3, 3));
        Boundary.told("INVENTED, of four one more", 1, storyBut(ReadingTest::fourAndOneKnows), x -> x.says(3, 4));
    }

    private static void avoidedOnOne(TownRiverBeast x) {
        x.show(3, 3);
        Check.sheet(x, 1, 0, 1);
    }

    private static void fourAndOneKnows(TownRiverBeast x) {
        x.show(3, 4);
        x.person();
        x.knows(1, 4, false);
        x.ask(VOTE, 1);
    }

    private static void whatThereIs() {
        Boundary.at(17, "THE TAPE is an EVENING: how many STATEMENTS");
        TownRiverBeast x = Worlds.story();
        Boundary.due("two", 2, Check.evening(x, "need 3 ; bell 20"));
        Boundary.due("one", 1, Check.evening(x, " person "));
        Boundary.due("none", -20, x.evening());
        Boundary.at(18, "Of a WORD: KIND (0), LETTER (1), COLUMN (2), SECONDS (3), a (4)");
        int[][] wants = {{0, 17, 0, 9, 0, 3, 0, 9}, {1, 17, 1, 12, 6, 3, 0, 6}, {2, 17, 2, 12, 3, 1, 0, 15}, {3, 17, 2, 9, 0, 6, 0, 4},
            {4, 17, 0, 5, 0, 6, 0, 5}, {5, 17, 3, 8, 4, 1, 0, 17}, {0, 3, 0, 7, 0, 0, 0, 7}};
        for (int w = 0; w < 7; w++) {
            for (int k = 0; k < 8; k++) {
                Boundary.due("word " + w + " what " + k, wants[w][k], x.wordOf(w, k));
            }
        }
        Boundary.at(19, "Of a SHEET: the i-th WORD; how many (i NONE)");
        int[][] sheets = {{4, 1, 0, 2, 5}, {3, 0, 3, 1}, {2, 4, 3}};
        for (int p = 0; p < 3; p++) {
            for (int i = 0; i < sheets[p].length; i++) {
                Boundary.due("person " + p + " i " + (i - 1), sheets[p][i], x.sheetOf(p, i - 1));
            }
        }
    }

    private static void round() {
        Boundary.at(21, "THE CALL. STUCK: nobody is there");
        Boundary.told("by person 0", 47, STORY, TownRiverBeast::call);
        Boundary.told("by the bell", 20, () -> bell(Worlds.story(), 20), TownRiverBeast::call);
        Boundary.told("by person 2, of two", 9, storyBut(x -> x.ask(NEED, 2)), TownRiverBeast::call);
        Boundary.at(22, "CALLER; NONE");
        Boundary.told("person 0", 0, STORY, TownRiverBeast::caller);
        Boundary.told("nobody", NONE, () -> bell(Worlds.story(), 20), TownRiverBeast::caller);
        Boundary.told("person 2", 2, storyBut(x -> x.ask(NEED, 2)), TownRiverBeast::caller);
        Boundary.at(24, "KEPT (bits). BAD");
        int[][] kept = {{39, 11, 24}, {3, 11, 24}, {2, 1, 24}};
        for (int p = 0; p < 3; p++) {
            int person = p;
            Boundary.told("by person " + p, kept[0][p], STORY, x -> x.kept(person));
            Boundary.told("by 20, person " + p, kept[1][p], () -> bell(Worlds.story(), 20), x -> x.kept(person));
            Boundary.told("by 9, person " + p, kept[2][p], storyBut(x -> x.ask(NEED, 2)), x -> x.kept(person));
        }
        Boundary.told("voted down", 8, storyBut(ReadingTest::fourAndOneKnows), x -> x.kept(2));
        Boundary.told("voted down, but written", 24, storyBut(ReadingTest::fourAndOneKnows), x -> x.written(2, 9));
        Boundary.at(25, "POINTS of a person; in a COLUMN (column NONE: in all)");
        int[][] points = {{40, 15, 15}, {10, 15, 15}, {20, 10, 30}};
        for (int p = 0; p < 3; p++) {
            int person = p;
            Boundary.told("of person " + p, points[0][p], STORY, x -> x.points(person, NONE));
            Boundary.told("by 20, of person " + p, points[1][p], () -> bell(Worlds.story(), 20), x -> x.points(person, NONE));
            Boundary.told("by 9, of person " + p, points[2][p], storyBut(x -> x.ask(NEED, 2)), x -> x.points(person, NONE));
        }
        Boundary.at(26, "WINNER. STUCK: nobody is there");
        Boundary.told("person 0", 0, STORY, TownRiverBeast::winner);
        Boundary.told("of two the first", 1, () -> bell(Worlds.story(), 20), TownRiverBeast::winner);
        Boundary.told("person 2", 2, storyBut(x -> x.ask(NEED, 2)), TownRiverBeast::winner);
    }

    private static void bestOfAll() {
        Boundary.at(27, "BEST SHEET: POINTS (what 0), WORDS (1, bits), THE CALL by it (2)");
        int[][] best = {{40, 39, 47}, {15, 11, 47}, {15, 24, 47}};
        for (int p = 0; p < 3; p++) {
            for (int k = 0; k < 3; k++) {
                int person = p;
                int what = k;
                Boundary.told("of person " + p, best[p][k], STORY, x -> x.best(person, what));
            }
        }
        int[] byBell = {20, 32, 20};
        int[] orders = {20, 5, 0, 1, 2};
        for (int k = 0; k < 3; k++) {
            int what = k;
            Boundary.told("by 20", byBell[k], () -> bell(Worlds.story(), 20), x -> x.best(0, what));
        }
        Boundary.at(28, "Of all orders in which a person could write the WORDS of the SHEET that by which POINTS are most, of several the first "
            + "(by rows of numbers)");
        int[][] alike = {{40, 0, 1, 2, 5}, {15, 0, 1, 3}, {15, 3, 4}};
        for (int p = 0; p < 3; p++) {
            for (int i = 0; i < alike[p].length; i++) {
                int person = p;
                int place = i - 1;
                Boundary.told("of person " + p + " i " + place, alike[p][i], STORY, x -> x.order(person, place));
            }
        }
        for (int i = 0; i < orders.length; i++) {
            int place = i - 1;
            Boundary.told("by 20, i " + place, orders[i], () -> bell(Worlds.story(), 20), x -> x.order(0, place));
        }
        Boundary.at(29, "Two WORDS of a SHEET change places (i, j below how many there are) in truth: the one that is at i then");
        TownRiverBeast x = Worlds.story();
        Boundary.due("the last comes first", 1, x.swap(1, 0, 2));
        int[] swapped = {1, 3, 0};
        for (int i = 0; i < 3; i++) {
            Boundary.due("place " + i, swapped[i], x.sheetOf(1, i));
        }
        Boundary.due("it is written first", 2, x.written(1, 6));
        Boundary.at(30, "BEST WORD; NONE");
        int[][] words = {{0, 1, 2, 5}, {0, 1, 3, NONE}, {4, NONE, 3, NONE}};
        for (int p = 0; p < 3; p++) {
            for (int c = 0; c < 4; c++) {
                int person = p;
                int column = c;
                Boundary.told("of person " + p + " column " + c, words[p][c], STORY, y -> y.bestWord(person, column));
            }
        }
        Boundary.at(31, "LEARN: the WORD (what 0; NONE), by how much more (1; 0: none, or not more)");
        Boundary.told("by another letter", NONE, storyBut(y -> y.ask(LETTER, 2)), y -> y.learn(0, 0));
        Boundary.told("by another letter", 0, storyBut(y -> y.ask(LETTER, 2)), y -> y.learn(0, 1));
        Boundary.told("by letter 3", 6, storyBut(y -> y.ask(LETTER, 3)), y -> y.learn(0, 0));
        Boundary.told("by letter 3", 20, storyBut(y -> y.ask(LETTER, 3)), y -> y.learn(0, 1));
    }

    private static void letters() {
        Boundary.at(32, "LONELY WORDS (bits)");
        Boundary.told("of 17", 36, STORY, x -> x.lonely(17));
        Boundary.told("of 3", 0, STORY, x -> x.lonely(3));
        Boundary.at(34, "GAINS.");
        Boundary.told("of 17", 0, STORY, x -> x.gains(17));
        Boundary.told("of 3, of all the first", 0, STORY, x -> x.gains(3));
        Boundary.told("of 3, one knows it", 2, storyBut(x -> x.knows(2, 6, true)), x -> x.gains(3));
        Boundary.at(36, "The first second (0 to 25) of it at which a person FILLS most, alone; NONE.");
        Boundary.told("letter 17", 17, STORY, x -> x.stop(0, 1, 0));
        Boundary.told("less than another", NONE, STORY, x -> x.stop(0, 1, 1));
        Boundary.told("at once", 0, STORY, x -> x.stop(17, 26, 0));
        Boundary.told("it never comes", NONE, STORY, x -> x.stop(0, 2, 0));
        Boundary.told("three a second", 23, STORY, x -> x.stop(0, 3, 0));
    }

    private static void whatIsKept() {
        Boundary.at(39, "Who has KEPT a WORD (bits of PEOPLE)");
        int[] keptBy = {3, 3, 1, 6, 4, 1, 0};
        for (int w = 0; w < 7; w++) {
            int word = w;
            Boundary.told("word " + w, keptBy[w], STORY, x -> x.keptBy(word));
        }
        Boundary.at(40, "Who besides a person has most POINTS, of several the first");
        int[] rivals = {1, 0, 0};
        int[] byBell = {1, 2, 1};
        int[] needs = {4, 3, 1};
        for (int p = 0; p < 3; p++) {
            int person = p;
            Boundary.told("person " + p, rivals[p], STORY, x -> x.rival(person));
            Boundary.told("by 20, person " + p, byBell[p], () -> bell(Worlds.story(), 20), x -> x.rival(person));
        }
        Boundary.at(41, "The NEED (1 to 5) with which POINTS of a person, less the most of another (0: nobody else is there), would be most");
        for (int p = 0; p < 3; p++) {
            int person = p;
            Boundary.told("person " + p, needs[p], STORY, x -> x.needFor(person));
        }
        Boundary.at(42, "By how many seconds a person would have WRITTEN the whole SHEET (what counts of it) later than THE CALL; 0: not later.");
        Boundary.told("who calls", 0, STORY, x -> x.late(0));
        Boundary.told("the bell is 27 seconds ahead", 27, () -> bell(Worlds.story(), 20), x -> x.late(0));
        Boundary.told("without the word that isn't known now", 10, storyBut(x -> {
            x.ask(BELL, 20);
            x.knows(0, 5, false);
        }), x -> x.late(0));
        Boundary.told("another calls", 10, storyBut(x -> x.ask(NEED, 2)), x -> x.late(1));
        Boundary.at(43, "How many COLUMNS there are in which two or more have KEPT the same WORD");
        Boundary.told("three of four", 3, STORY, TownRiverBeast::clashes);
        Boundary.told("by 9 none", 0, storyBut(x -> x.ask(NEED, 2)), TownRiverBeast::clashes);
        Boundary.at(44, "The COLUMN in which fewest have KEPT a WORD, of several the first");
        Boundary.told("one alone", 3, STORY, TownRiverBeast::empty);
        Boundary.told("by 5 all but one, the first", 1, storyBut(x -> x.ask(NEED, 1)), TownRiverBeast::empty);
    }

    private static void inTruth() {
        Boundary.at(45, "SHEET of a person becomes the BEST SHEET in truth (written as that has it): POINTS");
        TownRiverBeast x = Worlds.story();
        Boundary.due("person 2", 15, x.takeBest(2));
        Boundary.due("what takes least is first", 3, x.sheetOf(2, 0));
        Boundary.due("then the other", 4, x.sheetOf(2, 1));
        Boundary.at(46, "A ROUND in truth: CALLER (NONE)");
        Boundary.due("person 0", 0, x.round());
        int[] scores = {40, 15, 15};
        for (int p = 0; p < 3; p++) {
            Boundary.due("score " + p, scores[p], x.score(p));
            Boundary.due("sheet " + p, 0, x.sheetOf(p, NONE));
        }
        Boundary.due("words 0 to 5 are used", 6, x.status(19));
        Boundary.due("word 6 isn't", 0, x.wordOf(6, 6));
        Boundary.due("nobody calls with no words", NONE, x.round());
        x.ask(BAR, 1);
        Boundary.due("all are barred", 0, x.best(0, 0));
        Boundary.at(48, "SCORES are 0, no WORD is USED, SHEETS are empty: how many WORDS were USED");
        Boundary.due("again", 6, x.again());
        Boundary.due("nothing is barred", 40 + 40, x.best(0, 0));
        drawn();
    }

    /** By seed 1: 1103527590, its upper bits 16838, modulo 26 are 16; then 38526, modulo 26 are 20. */
    private static void drawn() {
        Boundary.at(47, "n ROUNDS (1 to 9) by draws in truth");
        TownRiverBeast x = new TownRiverBeast();
        x.person();
        x.person();
        x.word(0, 16, 0, 5, 0);
        x.word(0, 16, 1, 5, 0);
        x.knows(1, 0, true);
        x.knows(1, 1, true);
        x.knows(0, 0, true);
        Boundary.due("one round by letter 16", 1, x.rounds(1));
        Boundary.due("the letter", 16, x.status(3));
        Boundary.due("the first has word 0, alike", 5, x.score(0));
        Boundary.due("the other has it too, and one alone", 25, x.score(1));
        Boundary.due("the seed", 1103527590, x.status(17));
        Boundary.at(49, "SEED becomes v: the one ahead");
        Boundary.due("back to the first", 1103527590, x.seed(1));
        Boundary.due("the same letter, then 20", 1, x.rounds(2));
        Boundary.due("the letter", 20, x.status(3));
        Boundary.due("alike again", 10, x.score(0));
    }

    public static void main(String[] args) {
        words();
        sheetsAndNeed();
        statements();
        writtenAndPoints();
        inThought();
        refusals();
        shelves();
        kinds();
        whatThereIs();
        round();
        bestOfAll();
        letters();
        whatIsKept();
        inTruth();
        Check.end();
    }
}
