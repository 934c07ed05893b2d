import java.util.function.Supplier;

/** Sentences of the Terms that name a boundary and belong to several promises, or to none alone. */
public final class BoundaryTermsTest {
    private static final int BAD = Boundary.BAD;
    private static final int OTHER = Boundary.OTHER;
    private static final int NOTHING = Boundary.NOTHING;
    private static final int STUCK = Boundary.STUCK;
    private static final int FULL = Boundary.FULL;
    private static final int NONE = Boundary.NONE;
    private static final int TERMS = Boundary.TERMS;
    private static final int LETTER = 0;
    private static final int NEED = 1;
    private static final int BELL = 2;
    private static final int ALONE = 3;
    private static final int BAR = 7;
    private static final Supplier<TownRiverBeast> RICH = Worlds::rich;
    private static final Supplier<TownRiverBeast> RICH_BUT_TAPE = Worlds::richButTape;
    private static final Supplier<TownRiverBeast> NEW = TownRiverBeast::new;

    private static void calls() {
        Boundary.at(Boundary.WHAT_IT_IS, "An object is used for at most 512 calls after it has been made");
        TownRiverBeast x = new TownRiverBeast();
        for (int call = 1; call <= 512; call++) {
            Boundary.due("call " + call, call - 1 & 1, x.ask(BAR, call & 1));
        }
        x = Worlds.words(24);
        x.person();
        for (int w = 0; w < 24; w++) {
            x.knows(0, w, true);
        }
        for (int call = 50; call < 512; call++) {
            Boundary.due("call " + call, 20, x.best(0, 0));
        }
        Boundary.due("call 512", 0, x.rounds(9));
    }

    private static TownRiverBeast columns(int n) {
        TownRiverBeast x = Worlds.people(1);
        x.columns(n);
        return x;
    }

    private static void columns() {
        Boundary.at(TERMS, "COLUMNS are 0 to n less 1 (n 1 to 5; 4 at first).");
        Boundary.told("at first", 4, NEW, x -> x.status(0));
        Boundary.refused("0 columns", BAD, NEW, x -> x.columns(0));
        Boundary.refused("6 columns", BAD, NEW, x -> x.columns(6));
        for (int n = 1; n <= 5; n++) {
            int many = n;
            Supplier<TownRiverBeast> world = () -> columns(many);
            Boundary.due("the last of " + n, 0, columns(n).word(0, 0, n - 1, 1, 0));
            Boundary.refused("word behind " + n, BAD, world, x -> x.word(0, 0, many, 1, 0));
            Boundary.refused("word ahead of 0", BAD, world, x -> x.word(0, 0, -1, 1, 0));
            Boundary.told("points of the last of " + n, 0, world, x -> x.points(0, many - 1));
            Boundary.refused("points behind " + n, BAD, world, x -> x.points(0, many));
            Boundary.told("bestWord of the last of " + n, NONE, world, x -> x.bestWord(0, many - 1));
            Boundary.refused("bestWord behind " + n, BAD, world, x -> x.bestWord(0, many));
            Boundary.fault("word 0 0 " + n + " 1 0", 9, world);
            Boundary.due("evening of the last of " + n, 1, Check.evening(columns(n), "word 0 0 " + (n - 1) + " 1 0"));
        }
    }

    private static void words() {
        Boundary.at(TERMS, "SECONDS (1 to 60), a (0 to 9)");
        for (int seconds : new int[] {0, 61}) {
            Boundary.refused(seconds + " seconds", BAD, RICH, x -> x.word(0, 0, 0, seconds, 0));
            Boundary.fault("word 0 0 0 " + seconds + " 0", 11, RICH_BUT_TAPE);
        }
        for (int a : new int[] {-1, 10}) {
            Boundary.refused("a " + a, BAD, RICH, x -> x.word(0, 0, 0, 1, a));
        }
        Boundary.fault("word 0 0 0 1 10", 13, RICH_BUT_TAPE);
        for (int seconds : new int[] {1, 60}) {
            for (int a : new int[] {0, 9}) {
                TownRiverBeast x = new TownRiverBeast();
                Boundary.due(seconds + " seconds, a " + a, 0, x.word(0, 0, 0, seconds, a));
                Boundary.due("evening, " + seconds + " seconds, a " + a, 1, Check.evening(x, "word 0 0 0 " + seconds + " " + a));
                for (int w = 0; w < 2; w++) {
                    Boundary.due("seconds", seconds, x.wordOf(w, 3));
                    Boundary.due("a", a, x.wordOf(w, 4));
                }
            }
        }
        Boundary.at(TERMS, "who KNOWS it (bits of PEOPLE; 0 at first); USED or not (at first)");
        TownRiverBeast x = Worlds.rich();
        x.word(0, 0, 0, 1, 0);
        x.wipe();
        Check.evening(x, "word 0 0 0 1 0");
        for (int w = 7; w < 9; w++) {
            Boundary.due("who knows a new word", 0, x.wordOf(w, 5));
            Boundary.due("whether it is used", 0, x.wordOf(w, 6));
            for (int p = 0; p < 3; p++) {
                x.knows(p, w, true);
                Boundary.due("people to " + p, (2 << p) - 1, x.wordOf(w, 5));
            }
        }
        Boundary.at(TERMS, "a SCORE (0 at first)");
        Boundary.due("somebody new", 3, x.person());
        Boundary.due("somebody new", 0, x.score(3));
        Boundary.at(TERMS, "WORDS in the order in which they'd be written (5 at most; none at first)");
        Boundary.due("somebody new", 0, x.sheetOf(3, NONE));
        Boundary.refused("six", BAD, RICH, y -> y.sheet(4, 6, 0));
        Boundary.due("five", 5, Worlds.rich().sheet(0, 5, 0));
    }

    private static void letterAndTape() {
        Boundary.at(TERMS, "THE LETTER (0 at first)");
        Boundary.told("at first", 0, NEW, x -> x.status(3));
        TownRiverBeast x = Worlds.people(1);
        x.word(0, 0, 0, 1, 0);
        x.word(0, 25, 0, 1, 0);
        x.knows(0, 0, true);
        x.knows(0, 1, true);
        Boundary.due("a word of 0 can be on a sheet", 1, Check.sheet(x, 0, 0));
        Boundary.due("a word of 25 can't", STUCK, Check.sheet(x, 0, 1));
        x.ask(LETTER, 25);
        Boundary.due("a word of 25 can now", 1, Check.sheet(x, 0, 1));
        Boundary.due("a word of 0 can't", STUCK, Check.sheet(x, 0, 0));
        Boundary.at(TERMS, "AN EVENING is read from THE TAPE (bytes, 250 at most).");
        Boundary.due("the 250th byte", 250, Worlds.tape(249).feed(0));
        Boundary.refused("a 251st", FULL, () -> Worlds.tape(250), y -> y.feed(0));
        x = Worlds.tape(244);
        Boundary.due("its last six bytes", 1, Check.evening(x, "person"));
        x = Worlds.tape(245);
        Boundary.due("one byte too few", -20 - 245, Check.evening(x, "person"));
        Boundary.due("which is refused twice", 1, x.status(12));
        Boundary.due("which is refused twice", 1, x.status(16));
        Boundary.at(TERMS, "The FAULT: the place of the first byte of the first TOKEN that can't stand there");
        Boundary.fault("bell 601", 5, RICH_BUT_TAPE);
        Boundary.fault("bell    601", 8, RICH_BUT_TAPE);
        Boundary.fault("  person person", 9, RICH_BUT_TAPE);
    }

    private static void silence() {
        Boundary.at(TERMS, "the first second from which on, of 26 one after the other, a told person FILLS most (alone); NONE.");
        for (int rate = 1; rate <= 26; rate++) {
            for (int letter = 0; letter < 26; letter++) {
                int want = NONE;
                for (int second = 25; second >= 0; second--) {
                    want = (letter + rate * second) % 26 == 7 ? second : want;
                }
                TownRiverBeast x = Worlds.of("word 0 7 0 1 0;person;person;knows 1 0");
                Boundary.due("from " + letter + " by " + rate, want, x.stop(letter, rate, 1));
                Boundary.due("what isn't refused", 0, x.status(12) + x.status(15));
            }
        }
    }

    private static void truth() {
        Boundary.at(TERMS, "TAKES of all of it together.");
        Boundary.told("of none", 0, RICH, x -> x.takes(0, 0, 0));
        Boundary.told("of five", 45, RICH, x -> x.takes(0, 5, 0));
        Boundary.at(TERMS, "ROUNDS by draws: THE LETTER is a DRAW below 26");
        boolean[] seen = new boolean[26];
        for (int v = 0; v < 200; v++) {
            TownRiverBeast x = Worlds.people(1);
            x.seed(v * 7919);
            x.rounds(1);
            int letter = x.status(3);
            Boundary.due("0 at least", 1, letter >= 0 ? 1 : 0);
            Boundary.due("25 at most", 1, letter <= 25 ? 1 : 0);
            if (letter >= 0 && letter <= 25) {
                seen[letter] = true;
            }
        }
        Boundary.due("the first letter is drawn", 1, seen[0] ? 1 : 0);
        Boundary.due("the last letter is drawn", 1, seen[25] ? 1 : 0);
        Boundary.at(TERMS, "A DRAW below n: SEED (1 at first) becomes SEED times 1103515245, and 12345");
        Boundary.told("at first", 1, NEW, x -> x.status(17));
        int[][] wants = {{1, 1103527590}, {0, 12345}, {-1, -1103502900}, {2, -2087924461}, {Integer.MIN_VALUE, -2147471303}};
        for (int[] r : wants) {
            TownRiverBeast x = Worlds.people(1);
            x.seed(r[0]);
            x.rounds(1);
            Boundary.due("after " + r[0], r[1], x.status(17));
        }
    }

    private static void rows() {
        Boundary.at(TERMS, "A ROW has a SORT (0 bytes, 1 shorts, 2 ints, 3 longs, 4 booleans)");
        long v = 0x0102030405068081L;
        long[] wants = {(byte) 0x81, (short) 0x8081, 0x05068081, v, 1};
        for (int sort = 0; sort < 5; sort++) {
            TownRiverBeast x = new TownRiverBeast();
            x.row(0, sort, 1);
            x.set(0, 0, v);
            Boundary.due("sort " + sort, wants[sort], x.element(0, 0));
        }
        Boundary.refused("sort -1", BAD, RICH, x -> x.row(0, -1, 1));
        Boundary.refused("sort 5", BAD, RICH, x -> x.row(0, 5, 1));
        Boundary.at(TERMS, "told they are numbers (1, 0)");
        Boundary.told("a boolean that is so", 1, RICH, x -> x.element(5, 1));
        Boundary.told("a boolean that is not so", 0, RICH, x -> x.element(5, 2));
    }

    private static void refusals() {
        Boundary.at(TERMS, "-2 BAD a number that may not be, nothing of that number.");
        Boundary.refused("a number that may not be", BAD, RICH, x -> x.ask(NEED, 0));
        Boundary.refused("nothing of that number", BAD, RICH, x -> x.score(3));
        Boundary.at(TERMS, "-3 OTHER: a SHELF that holds another thing than is wanted.");
        Boundary.refused("a WORD, a ROW is wanted", OTHER, RICH, x -> x.set(2, 0, 0));
        Boundary.refused("a ROW, a WORD is wanted", OTHER, RICH, x -> x.says(0, 0));
        Boundary.at(TERMS, "-4 NOTHING: a SHELF that holds NOTHING.");
        Boundary.refused("a ROW is wanted", NOTHING, RICH, x -> x.set(3, 0, 0));
        Boundary.refused("a WORD is wanted", NOTHING, RICH, x -> x.says(3, 0));
        Boundary.at(TERMS, "-5 STUCK: it can't be as things stand.");
        Boundary.refused("there are words", STUCK, RICH, x -> x.columns(4));
        Boundary.at(TERMS, "-6 FULL.");
        Boundary.refused("the words", FULL, () -> Worlds.words(24), x -> x.word(0, 0, 0, 1, 0));
        Boundary.refused("the people", FULL, () -> Worlds.people(4), TownRiverBeast::person);
        Boundary.refused("the tape", FULL, () -> Worlds.tape(250), x -> x.feed(1));
    }

    private static void told() {
        Boundary.at(13, "THE LETTER (what 0), NEED (1), BELL (2), ALONE (3), OWN (4), ALIKE (5), VOTE (6), BAR (7) becomes v: what it was");
        TownRiverBeast x = new TownRiverBeast();
        int[] first = {0, 4, 180, 20, 10, 5, 0, 0};
        for (int what = 0; what < 8; what++) {
            Boundary.due("what " + what, first[what], x.ask(what, 1));
            Boundary.due("what " + what + " the same", 1, x.ask(what, 1));
        }
        Boundary.at(18, "whether it is USED (6; 1, 0), what it TAKES (7)");
        Boundary.told("used", 1, RICH, y -> y.wordOf(3, 6));
        Boundary.told("not used", 0, RICH, y -> y.wordOf(4, 6));
        Boundary.told("takes", 17, RICH, y -> y.wordOf(5, 7));
        Boundary.at(41, "The NEED (1 to 5) with which POINTS of a person");
        x = Worlds.knowing(1, 1, 1, 1, 1, 1);
        Check.sheet(x, 0, 0, 1, 2, 3, 4);
        Boundary.due("the most", 5, x.needFor(0));
        x.ask(ALONE, 0);
        Boundary.due("the least", 1, x.needFor(0));
        x.ask(ALONE, 1);
        x.ask(BELL, 4);
        Boundary.due("four by BELL", 4, x.needFor(0));
        Boundary.at(52, "3 to 10: as ask() has them from 0 to 7; THE TAPE's size (11)");
        x = Worlds.tape(250);
        int[] most = {25, 5, 600, 50, 49, 48, 1, 1};
        for (int what = 0; what < 8; what++) {
            x.ask(what, most[what]);
        }
        for (int what = 0; what < 8; what++) {
            Boundary.due("status " + (3 + what), most[what], x.status(3 + what));
        }
        Boundary.due("a whole tape", 250, x.status(11));
        x.wipe();
        Boundary.due("an empty tape", 0, x.status(11));
        Boundary.at(52, "WORDS that are USED (19)");
        Boundary.told("one", 1, RICH, y -> y.status(19));
        Boundary.told("none", 0, Worlds::written, y -> y.status(19));
    }

    public static void main(String[] args) {
        calls();
        columns();
        words();
        letterAndTape();
        silence();
        truth();
        rows();
        refusals();
        told();
        Check.end();
    }
}
