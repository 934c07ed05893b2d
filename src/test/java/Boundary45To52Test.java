import java.util.function.Supplier;

/** In truth, promises 45 to 52: each sentence that names a boundary, from both sides. */
public final class Boundary45To52Test {
    private static final int BAD = Boundary.BAD;
    private static final int STUCK = Boundary.STUCK;
    private static final int NONE = Boundary.NONE;
    private static final int LOW = Boundary.LOW;
    private static final int HIGH = Boundary.HIGH;
    private static final int NEED = 1;
    private static final int BELL = 2;
    private static final int ALONE = 3;
    private static final int VOTE = 6;
    private static final int BAR = 7;
    private static final Supplier<TownRiverBeast> RICH = Worlds::rich;
    private static final Supplier<TownRiverBeast> NEW = TownRiverBeast::new;

    private static void sheet(String how, TownRiverBeast x, int person, int... words) {
        Boundary.due(how + ", how many", words.length, x.sheetOf(person, NONE));
        for (int i = 0; i < words.length; i++) {
            Boundary.due(how + ", place " + i, words[i], x.sheetOf(person, i));
        }
    }

    private static void promise45() {
        Boundary.at(45, "BAD");
        for (int person : new int[] {-1, 3, LOW, HIGH}) {
            Boundary.refused("person " + person, BAD, RICH, x -> x.takeBest(person));
        }
        Boundary.refused("nobody", BAD, NEW, x -> x.takeBest(0));
        Boundary.at(45, "SHEET of a person becomes the BEST SHEET in truth (written as that has it): POINTS");
        TownRiverBeast x = Worlds.rich();
        Boundary.due("points", 50, x.takeBest(0));
        sheet("the least first", x, 0, 3, 1, 0, 5);
        Boundary.due("points of it", 50, x.points(0, NONE));
        Boundary.due("the call of it", 32, x.call());
        sheet("another's stays", x, 1, 0, 1, 2);
        Boundary.due("the last person", 10, x.takeBest(2));
        x = Worlds.rich();
        x.ask(0, 25);
        Boundary.due("no word of THE LETTER", 0, x.takeBest(0));
        sheet("none", x, 0);
        x = Worlds.knowing(1, 5, 4, 3, 2, 1);
        x.ask(NEED, 5);
        Boundary.due("five", 100, x.takeBest(0));
        sheet("five", x, 0, 4, 3, 2, 1, 0);
        x.ask(BELL, 15);
        Boundary.due("at BELL", 100, x.takeBest(0));
        x.ask(BELL, 14);
        Boundary.due("one second behind BELL", 80, x.takeBest(0));
        sheet("least bits of those in time", x, 0, 3, 2, 1, 0);
        x.ask(ALONE, 0);
        Boundary.due("nothing to gain", 0, x.takeBest(0));
        sheet("nothing to gain", x, 0);
    }

    private static void promise46() {
        Boundary.at(46, "CALLER (NONE). STUCK: nobody is there. (NONE isn't refused.)");
        Boundary.refused("nobody", STUCK, NEW, TownRiverBeast::round);
        Boundary.refused("words, but nobody", STUCK, () -> Worlds.words(3), TownRiverBeast::round);
        Boundary.told("one without a sheet", NONE, () -> Worlds.people(1), TownRiverBeast::round);
        TownRiverBeast x = Worlds.rich();
        x.ask(BELL, 28);
        Boundary.due("at BELL", 0, x.round());
        x = Worlds.rich();
        x.ask(BELL, 27);
        Boundary.due("one second behind BELL", NONE, x.round());
        Boundary.due("not refused", Worlds.rich().status(12), x.status(12));
        Boundary.at(Boundary.TERMS, "IN TRUTH a ROUND: SCORES grow by POINTS, KEPT WORDS are USED, all SHEETS are empty then.");
        x = Worlds.rich();
        x.round();
        int[] scores = {35, 35, 10};
        int[] used = {1, 1, 1, 1, 1, 0, 0};
        for (int p = 0; p < 3; p++) {
            Boundary.due("score " + p, scores[p], x.score(p));
            Boundary.due("sheet " + p, 0, x.sheetOf(p, NONE));
        }
        for (int w = 0; w < 7; w++) {
            Boundary.due("used " + w, used[w], x.wordOf(w, 6));
        }
        Boundary.due("a second round", NONE, x.round());
        Boundary.due("scores stay", 35, x.score(0));
        Boundary.due("what is used stays so", 5, x.status(19));
        x = Worlds.rich();
        x.ask(VOTE, 1);
        x.round();
        Boundary.due("voted down: not used", 0, x.wordOf(4, 6));
        Boundary.due("voted down: no points", 0, x.score(2));
        Boundary.due("voted down: the sheet is empty", 0, x.sheetOf(2, NONE));
        barredAtOnce();
    }

    /** A barred word counts for nothing only from the next round on. */
    private static void barredAtOnce() {
        TownRiverBeast x = Worlds.knowing(2, 9, 9);
        x.ask(BAR, 1);
        Check.sheet(x, 0, 0);
        Check.sheet(x, 1, 0, 1);
        x.round();
        Boundary.due("the same word", 5, x.score(0));
        Boundary.due("the same word and another", 25, x.score(1));
        Boundary.due("both are used", 2, x.status(19));
        Boundary.due("none can be on a sheet", STUCK, Check.sheet(x, 0, 0));
    }

    /** The same by numbers that don't wrap: the lowest 32 bits, and the upper half of these. */
    private static long drawn(long seed) {
        return Math.floorMod(seed * 1103515245L + 12345L, 1L << 32);
    }

    private static void promise47() {
        Boundary.at(47, "n ROUNDS (1 to 9) by draws in truth: the one with the greatest SCORE then, of several the first. "
            + "BAD; STUCK: nobody is there");
        for (int n : new int[] {0, 10, -1, LOW, HIGH}) {
            Boundary.refused(n + " rounds", BAD, RICH, x -> x.rounds(n));
            Boundary.refused(n + " ahead of STUCK", BAD, NEW, x -> x.rounds(n));
        }
        Boundary.refused("nobody", STUCK, NEW, x -> x.rounds(1));
        Boundary.refused("nobody", STUCK, () -> Worlds.words(1), x -> x.rounds(9));
        for (int n = 1; n <= 9; n++) {
            TownRiverBeast x = Worlds.people(4);
            Boundary.due("of four the first", 0, x.rounds(n));
            long seed = 1;
            for (int k = 0; k < n; k++) {
                seed = drawn((int) seed);
            }
            Boundary.due(n + " draws", (int) seed, x.status(17));
            Boundary.due("the last letter of " + n, (seed >> 16) % 26, x.status(3));
        }
        Boundary.at(Boundary.TERMS, "(an int, wrapping); its upper 16 bits, no sign, modulo n");
        for (int v : new int[] {0, 1, 2, 3, 77, -1, -2, LOW, HIGH, LOW + 1, 1 << 16, 123456789, -123456789, 1 << 30}) {
            TownRiverBeast x = Worlds.people(1);
            x.seed(v);
            x.rounds(1);
            long seed = drawn(v);
            Boundary.due("seed after " + v, (int) seed, x.status(17));
            Boundary.due("letter after " + v, (seed >> 16) % 26, x.status(3));
        }
        Boundary.due("the first draw of all", 16, drawn(1) / 65536 % 26);
        roundsByNumbers();
        greatestScore();
    }

    /** Seed 1 draws letter 16 first. */
    private static TownRiverBeast ofSixteen() {
        return Worlds.of("word 0 16 0 9 0;word 0 16 0 9 0;person;person;knows 0 0;knows 1 0;knows 1 1;need 1");
    }

    private static void roundsByNumbers() {
        Boundary.at(Boundary.TERMS, "all take their BEST SHEET, by numbers (the others' as they are then); a ROUND");
        TownRiverBeast x = ofSixteen();
        Boundary.due("of several the first", 0, x.rounds(1));
        Boundary.due("the first took 0", 10, x.score(0));
        Boundary.due("the second then took 1", 10, x.score(1));
        Boundary.due("both are used", 2, x.status(19));
        Boundary.due("sheets are empty", 0, x.sheetOf(0, NONE) + x.sheetOf(1, NONE));
        x = ofSixteen();
        x.ask(0, 16);
        Check.sheet(x, 1, 0);
        x.knows(0, 1, true);
        x.rounds(1);
        Boundary.due("against the sheet that was there the first took 1", 10, x.score(0));
        Boundary.due("the second took 0", 10, x.score(1));
        x = ofSixteen();
        x.knows(1, 1, false);
        x.rounds(1);
        Boundary.due("alike", 5, x.score(0));
        Boundary.due("alike", 5, x.score(1));
        x.seed(1);
        x.ask(BAR, 1);
        x.rounds(1);
        Boundary.due("barred the second time", 5, x.score(0));
    }

    private static void greatestScore() {
        Boundary.at(47, "the one with the greatest SCORE then, of several the first");
        TownRiverBeast x = ofSixteen();
        x.knows(0, 0, false);
        Boundary.due("the second", 1, x.rounds(1));
        x.knows(1, 0, false);
        x.knows(1, 1, false);
        x.knows(0, 0, true);
        x.seed(1);
        Boundary.due("as much: the first", 0, x.rounds(1));
        Boundary.due("as much", x.score(0), x.score(1));
        x.seed(2);
        Boundary.due("by scores of all rounds", 0, x.rounds(1));
        Boundary.due("nothing more", 20, x.score(0));
    }

    private static void promise48() {
        Boundary.at(48, "SCORES are 0, no WORD is USED, SHEETS are empty: how many WORDS were USED");
        Boundary.told("nobody, no words", 0, NEW, TownRiverBeast::again);
        TownRiverBeast x = Worlds.rich();
        Boundary.due("one", 1, x.again());
        Boundary.due("none", 0, x.again());
        for (int p = 0; p < 3; p++) {
            Boundary.due("score " + p, 0, x.score(p));
            Boundary.due("sheet " + p, 0, x.sheetOf(p, NONE));
        }
        Boundary.due("used", 0, x.status(19));
        Boundary.due("what is known stays", 3, x.wordOf(0, 5));
        Boundary.due("BELL stays", 170, x.status(5));
        Boundary.due("SEED stays", 77, x.status(17));
        Boundary.due("words stay", 7, x.status(1));
        Boundary.due("people stay", 3, x.status(2));
        Boundary.due("the tape stays", 13, x.status(11));
        Boundary.due("shelves stay", 6, x.status(18));
        x.back();
        Boundary.due("what was kept stays", 0, x.status(19));
        x = Worlds.words(24);
        x.person();
        x.ask(NEED, 1);
        for (int w = 0; w < 24; w++) {
            x.knows(0, w, true);
            Check.sheet(x, 0, w);
            x.round();
        }
        Boundary.due("all 24", 24, x.status(19));
        Boundary.due("the score of 24", 480, x.score(0));
        Boundary.due("all 24", 24, x.again());
        Boundary.due("none", 0, x.status(19));
    }

    private static void promise49() {
        Boundary.at(49, "SEED becomes v: the one ahead");
        TownRiverBeast x = new TownRiverBeast();
        int ahead = 1;
        for (int v : new int[] {0, -1, -2, -6, LOW, HIGH, 1}) {
            Boundary.due("becomes " + v, ahead, x.seed(v));
            Boundary.due("is " + v, v, x.status(17));
            ahead = v;
        }
        Boundary.told("the same", 77, RICH, y -> y.seed(77));
    }

    private static void promise50() {
        Boundary.at(50, "All is kept, but THE TAPE, SHELVES and REFUSALS: 1");
        TownRiverBeast x = new TownRiverBeast();
        Boundary.due("of a new object", 1, x.image());
        x.columns(2);
        x.word(5, 25, 1, 60, 9);
        x.person();
        x.knows(0, 0, true);
        x.show(0, 0);
        x.row(1, 2, 3);
        x.feed('x');
        x.score(9);
        x.seed(9);
        for (int what = 0; what < 8; what++) {
            x.ask(what, 1);
        }
        Boundary.due("back", 1, x.back());
        int[] wants = {4, 0, 0, 0, 4, 180, 20, 10, 5, 0, 0, 1, 1, 0, 0, 0, 0, 1, 1, 0};
        for (int k = 0; k < wants.length; k++) {
            Boundary.due("status " + k, wants[k], x.status(k));
        }
        Boundary.due("no word is there to show", NONE, x.holds(0));
        Boundary.due("a ROW stays", 2, x.holds(1));
        Boundary.due("the tape stays", -20, x.evening());
        Boundary.due("columns again", 4, x.columns(3));
        Boundary.due("kept anew", 1, x.image());
        x.columns(5);
        x.back();
        Boundary.due("the last that was kept", 3, x.status(0));
    }

    private static void promise51() {
        Boundary.at(51, "STUCK: nothing was");
        Boundary.refused("a new object", STUCK, NEW, TownRiverBeast::back);
        Boundary.refused("with words and people", STUCK, Worlds::written, TownRiverBeast::back);
        TownRiverBeast x = new TownRiverBeast();
        x.back();
        x.image();
        Boundary.due("something was", 1, x.back());
        Boundary.due("it stays kept", 1, x.back());
        Boundary.at(51, "(SHELVES with WORDS hold those of the same numbers, or NOTHING): 1");
        x = Worlds.words(22);
        x.image();
        x.word(0, 0, 0, 1, 0);
        x.word(0, 0, 0, 1, 0);
        int[] shown = {0, 20, 21, 22, 23};
        int[] wants = {10, 30, 31, NONE, NONE};
        for (int s = 0; s < shown.length; s++) {
            x.show(s, shown[s]);
        }
        x.row(7, 4, 0);
        Boundary.due("six shelves", 6, x.status(18));
        Boundary.due("back", 1, x.back());
        for (int s = 0; s < shown.length; s++) {
            Boundary.due("shelf of word " + shown[s], wants[s], x.holds(s));
        }
        Boundary.due("a row of none stays", 4, x.holds(7));
        Boundary.due("four shelves", 4, x.status(18));
        Boundary.due("NOTHING", Boundary.NOTHING, x.says(3, 0));
        x.word(0, 0, 0, 1, 0);
        Boundary.due("NOTHING, though there is such a word again", NONE, x.holds(3));
        moreWordsThanNow();
        allAgain();
    }

    /** What was kept may have more words than there are now. */
    private static void moreWordsThanNow() {
        TownRiverBeast x = new TownRiverBeast();
        x.image();
        TownRiverBeast y = Worlds.words(2);
        y.image();
        y.show(0, 1);
        Boundary.due("as many", 1, y.back());
        Boundary.due("the same number", 11, y.holds(0));
        x.word(0, 0, 0, 1, 0);
        x.show(0, 0);
        Boundary.due("none was kept", 1, x.back());
        Boundary.due("none was kept", NONE, x.holds(0));
        Boundary.due("another kind under the number", 0, x.word(3, 0, 0, 1, 0));
        x.image();
        x.show(0, 0);
        x.back();
        Boundary.due("the word that was kept", 0, x.says(0, 3));
    }

    private static void allAgain() {
        Boundary.at(51, "All is again as it was kept");
        TownRiverBeast x = Worlds.rich();
        x.image();
        x.round();
        x.evening();
        x.ask(0, 25);
        x.seed(5);
        for (int w = 0; w < 7; w++) {
            x.knows(1, w, w > 3);
        }
        x.word(0, 0, 0, 1, 0);
        x.rounds(2);
        Boundary.due("back", 1, x.back());
        TownRiverBeast twin = Worlds.rich();
        twin.wipe();
        for (int k = 0; k < 20; k++) {
            Boundary.due("status " + k, twin.status(k), x.status(k));
        }
        for (int w = 0; w < 7; w++) {
            for (int what = 0; what < 8; what++) {
                Boundary.due("word " + w + " " + what, twin.wordOf(w, what), x.wordOf(w, what));
            }
        }
        for (int p = 0; p < 3; p++) {
            Boundary.due("score " + p, twin.score(p), x.score(p));
        }
        sheet("sheet 0", x, 0, 0, 1, 2, 3, 5);
        sheet("sheet 1", x, 1, 0, 1, 2);
        sheet("sheet 2", x, 2, 4);
    }

    private static void promise52() {
        Boundary.at(52, "NONE another what");
        for (int what : new int[] {-1, 20, LOW, HIGH}) {
            Boundary.told("status " + what, NONE, RICH, x -> x.status(what));
        }
        Boundary.at(52, "COLUMNS (0), WORDS (1), PEOPLE (2)");
        int[] wants = {5, 7, 3, 0, 4, 170, 20, 10, 5, 0, 0, 13, 1, 1, 1, 0, 0, 77, 6, 1};
        for (int k = 0; k < 20; k++) {
            int what = k;
            Boundary.told("status " + k, wants[k], RICH, x -> x.status(what));
        }
        Boundary.at(52, "12 to 16: REFUSALS -2 to -6");
        TownRiverBeast x = Worlds.people(4);
        x.word(0, 0, 0, 1, 0);
        x.show(0, 0);
        int[] counts = new int[5];
        for (int k = 0; k < 5; k++) {
            for (int times = 0; times <= k; times++) {
                int why = refuse(x, k);
                Boundary.due("refusal", -2 - k, why);
                counts[k]++;
                for (int other = 0; other < 5; other++) {
                    Boundary.due("how many of " + (-2 - other), counts[other], x.status(12 + other));
                }
            }
        }
        Boundary.at(52, "SEED (17), SHELVES that hold something (18)");
        for (int s = 0; s < 8; s++) {
            Boundary.due("ahead of shelf " + s, Math.max(1, s), x.status(18));
            x.row(s, s % 5, s % 2);
        }
        Boundary.due("all", 8, x.status(18));
        x.show(3, NONE);
        Boundary.due("all but one", 7, x.status(18));
        Boundary.at(Boundary.TERMS, "(the call answers the number; nothing changes but how many there were; the first that fits as each line has them)");
        Boundary.refused("of two the first: BAD", BAD, NEW, y -> y.copy(8, 0, 0, 0, 0));
        Boundary.refused("of two the first: OTHER", Boundary.OTHER, RICH, y -> y.copy(3, 2, -1, -1, -1));
        Boundary.refused("of two the first: NOTHING", Boundary.NOTHING, RICH, y -> y.copy(3, 0, -1, -1, -1));
    }

    private static int refuse(TownRiverBeast x, int k) {
        switch (k) {
            case 0: return x.score(4);
            case 1: return x.set(0, 0, 0);
            case 2: return x.set(1, 0, 0);
            case 3: return x.back();
            default: return x.person();
        }
    }

    public static void main(String[] args) {
        promise45();
        promise46();
        promise47();
        promise48();
        promise49();
        promise50();
        promise51();
        promise52();
        Boundary.covers(45, 52);
        Check.end();
    }
}
