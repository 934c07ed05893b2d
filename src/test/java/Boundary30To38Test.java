import java.util.function.Supplier;

/** What comes of it, promises 30 to 38: each sentence that names a boundary, from both sides. */
public final class Boundary30To38Test {
    private static final int BAD = Boundary.BAD;
    private static final int OTHER = Boundary.OTHER;
    private static final int NOTHING = Boundary.NOTHING;
    private static final int STUCK = Boundary.STUCK;
    private static final int NONE = Boundary.NONE;
    private static final int LOW = Boundary.LOW;
    private static final int HIGH = Boundary.HIGH;
    private static final int NEED = 1;
    private static final int BELL = 2;
    private static final int ALONE = 3;
    private static final int VOTE = 6;
    private static final int BAR = 7;
    private static final Supplier<TownRiverBeast> RICH = Worlds::rich;
    private static final Supplier<TownRiverBeast> NEW = TownRiverBeast::new;
    private static final int[] NO_PEOPLE = {-1, 3, LOW, HIGH};
    private static final int[] NO_LETTERS = {-1, 26, LOW, HIGH};

    private static void promise30() {
        Boundary.at(30, "BEST WORD; NONE. BAD. (NONE isn't refused.)");
        for (int column : new int[] {-1, 5, LOW, HIGH}) {
            Boundary.refused("column " + column, BAD, RICH, x -> x.bestWord(0, column));
        }
        for (int person : NO_PEOPLE) {
            Boundary.refused("person " + person, BAD, RICH, x -> x.bestWord(person, 0));
        }
        Boundary.refused("column 4 of four", BAD, () -> Worlds.people(1), x -> x.bestWord(0, 4));
        Boundary.told("column 3 of four", NONE, () -> Worlds.people(1), x -> x.bestWord(0, 3));
        int[][] wants = {{0, 1, 2, 3, 5}, {0, 1, 2, 3, NONE}, {4, NONE, NONE, NONE, NONE}};
        for (int p = 0; p < 3; p++) {
            for (int c = 0; c < 5; c++) {
                int person = p;
                int column = c;
                Boundary.told("of " + p + " in " + c, wants[p][c], RICH, x -> x.bestWord(person, column));
            }
        }
        bestWordOfThose();
        bestWordInItsPlace();
    }

    private static void bestWordOfThose() {
        Boundary.at(Boundary.TERMS, "of those WORDS of it that can be on it");
        TownRiverBeast x = Worlds.knowing(1, 9);
        Boundary.due("known", 0, x.bestWord(0, 0));
        x.knows(0, 0, false);
        Boundary.due("unknown", NONE, x.bestWord(0, 0));
        x.knows(0, 0, true);
        x.ask(0, 1);
        Boundary.due("of another letter", NONE, x.bestWord(0, 0));
        x.ask(0, 0);
        Check.sheet(x, 0, 0);
        x.round();
        Boundary.due("used", 0, x.bestWord(0, 0));
        x.ask(BAR, 1);
        Boundary.due("barred", NONE, x.bestWord(0, 0));
        Boundary.at(Boundary.TERMS, "that by which the person has most POINTS, of several the first; NONE.");
        x = Worlds.knowing(1, 9, 60, 60, 60, 60, 9, 60, 60, 60, 60, 8);
        Boundary.due("three alike", 0, x.bestWord(0, 0));
        x.knows(0, 0, false);
        Boundary.due("two alike", 5, x.bestWord(0, 0));
        x.ask(BELL, 8);
        Boundary.due("the one in time", 10, x.bestWord(0, 0));
        x.ask(BELL, 7);
        Boundary.due("none in time, the first", 5, x.bestWord(0, 0));
        x.ask(BELL, 180);
        x.ask(ALONE, 0);
        Boundary.due("no points, the first", 5, x.bestWord(0, 0));
        x = Worlds.knowing(2, 9, 60, 60, 60, 60, 9);
        Check.sheet(x, 0, 0);
        Boundary.due("not what the other has", 5, x.bestWord(1, 0));
        Check.sheet(x, 0, 5);
        Boundary.due("not what the other has", 0, x.bestWord(1, 0));
        x.knows(1, 0, false);
        Boundary.due("only what the other has", 5, x.bestWord(1, 0));
    }

    /** Of column 0 there are words of 10 and of 9 seconds, of column 1 one of 5. */
    private static void bestWordInItsPlace() {
        Boundary.at(Boundary.TERMS, "put in the place of the one that is there (else behind all)");
        TownRiverBeast x = Worlds.knowing(1, 10, 5, 60, 60, 60, 9);
        x.ask(BELL, 14);
        Check.sheet(x, 0, 0, 1);
        Boundary.due("in the first place, both in time", 5, x.bestWord(0, 0));
        x.ask(BELL, 13);
        Boundary.due("in the first place, the second is late", 0, x.bestWord(0, 0));
        Check.sheet(x, 0, 1, 0);
        Boundary.due("in the second place, late", 0, x.bestWord(0, 0));
        x.ask(BELL, 14);
        Boundary.due("in the second place", 5, x.bestWord(0, 0));
        Check.sheet(x, 0, 1);
        Boundary.due("behind all", 5, x.bestWord(0, 0));
        x.ask(BELL, 13);
        Boundary.due("behind all, late", 0, x.bestWord(0, 0));
        x.ask(BELL, 9);
        Boundary.due("behind all, late", 0, x.bestWord(0, 0));
        Check.sheet(x, 0);
        Boundary.due("as the only one", 5, x.bestWord(0, 0));
        x = Worlds.knowing(1, 5, 5, 5, 5, 5, 4);
        Check.sheet(x, 0, 0, 1, 2, 3, 4);
        x.ask(NEED, 5);
        x.ask(BELL, 24);
        Boundary.due("on a full sheet", 5, x.bestWord(0, 0));
        Boundary.due("in thought", 0, x.sheetOf(0, 0));
        Boundary.due("the last column", 4, x.bestWord(0, 4));
        Check.sheet(x, 0, 0, 1, 2, 3);
        Boundary.due("as the fifth", 4, x.bestWord(0, 4));
        Check.sheet(x, 0);
        x.ask(NEED, 2);
        x.ask(ALONE, 1);
        Boundary.due("of a sheet that was longer nothing is left", 0, x.bestWord(0, 0));
        Boundary.due("nor written", 0, x.written(0, 600));
    }

    private static void promise31() {
        Boundary.at(31, "the WORD (what 0; NONE), by how much more (1; 0: none, or not more). BAD. (NONE isn't refused.)");
        for (int what : new int[] {-1, 2, LOW, HIGH}) {
            Boundary.refused("what " + what, BAD, RICH, x -> x.learn(0, what));
        }
        for (int person : NO_PEOPLE) {
            Boundary.refused("person " + person, BAD, RICH, x -> x.learn(person, 0));
        }
        Boundary.refused("nobody", BAD, NEW, x -> x.learn(0, 0));
        Boundary.told("no words", NONE, () -> Worlds.people(1), x -> x.learn(0, 0));
        Boundary.told("no words", 0, () -> Worlds.people(1), x -> x.learn(0, 1));
        Boundary.told("all are known", NONE, () -> Worlds.knowing(1, 9, 9), x -> x.learn(0, 0));
        Boundary.told("all are known", 0, () -> Worlds.knowing(1, 9, 9), x -> x.learn(0, 1));
        Boundary.told("in thought", 5, RICH, x -> x.learn(2, 0));
        Boundary.told("in thought", 10, RICH, x -> x.learn(2, 1));
        Boundary.told("in thought", 4, RICH, x -> x.learn(0, 0));
        TownRiverBeast x = Worlds.knowing(1, 9, 9, 9, 9, 9);
        x.knows(0, 4, false);
        Boundary.due("not more", 4, x.learn(0, 0));
        Boundary.due("not more", 0, x.learn(0, 1));
        x.ask(NEED, 5);
        Boundary.due("more", 4, x.learn(0, 0));
        Boundary.due("more", 20, x.learn(0, 1));
        x.ask(BELL, 45);
        Boundary.due("just in time", 20, x.learn(0, 1));
        x.ask(BELL, 44);
        Boundary.due("late", 0, x.learn(0, 1));
        x.ask(0, 25);
        Boundary.due("another letter", NONE, x.learn(0, 0));
        learnOfSeveral();
        learnAgainstVote();
    }

    private static void learnOfSeveral() {
        Boundary.at(Boundary.TERMS, "of all WORDS that a person doesn't KNOW, of THE LETTER");
        TownRiverBeast x = Worlds.people(1);
        x.word(0, 1, 0, 9, 0);
        Boundary.due("only of another letter", NONE, x.learn(0, 0));
        x.word(0, 0, 0, 9, 0);
        Boundary.due("of THE LETTER", 1, x.learn(0, 0));
        Boundary.due("of THE LETTER", 20, x.learn(0, 1));
        Boundary.at(Boundary.TERMS, "that by KNOWING which POINTS by the BEST SHEET would be most, of several the first");
        x.word(0, 0, 0, 9, 0);
        Boundary.due("of two alike the first", 1, x.learn(0, 0));
        x.ask(BELL, 8);
        x.word(0, 0, 0, 8, 0);
        Boundary.due("the one in time", 3, x.learn(0, 0));
        x.ask(BELL, 7);
        Boundary.due("none in time, the first", 1, x.learn(0, 0));
        Boundary.due("none in time", 0, x.learn(0, 1));
    }

    /** By one's own knowing it, an invented word of another can come through the vote. */
    private static void learnAgainstVote() {
        Boundary.at(31, "0: none, or not more");
        TownRiverBeast x = Worlds.of("word 4 0 0 9 0;word 0 0 0 9 0;person;person;person;knows 1 0;sheet 1 0;knows 0 1");
        Boundary.due("not alone without a vote", 10, x.best(0, 0));
        x.ask(VOTE, 1);
        Boundary.due("alone by the vote", 20, x.best(0, 0));
        Boundary.due("less", 0, x.learn(0, 0));
        Boundary.due("less is 0", 0, x.learn(0, 1));
    }

    private static void promise32() {
        Boundary.at(32, "LONELY WORDS (bits). BAD");
        for (int letter : NO_LETTERS) {
            Boundary.refused("letter " + letter, BAD, RICH, x -> x.lonely(letter));
        }
        Boundary.told("letter 0", 16 + 32, RICH, x -> x.lonely(0));
        Boundary.told("letter 1", 64, RICH, x -> x.lonely(1));
        Boundary.told("letter 25", 0, RICH, x -> x.lonely(25));
        Boundary.told("nobody, no words", 0, NEW, x -> x.lonely(0));
        Boundary.at(Boundary.TERMS, "LONELY WORDS of a LETTER: WORDS (bits) that just one person KNOWS");
        TownRiverBeast x = Worlds.words(23);
        x.word(0, 25, 0, 1, 0);
        for (int p = 0; p < 4; p++) {
            x.person();
        }
        Boundary.due("none knows it", 0, x.lonely(25));
        for (int p = 3; p >= 0; p--) {
            x.knows(p, 23, true);
            Boundary.due(4 - p + " know it", p == 3 ? 1 << 23 : 0, x.lonely(25));
        }
        x.knows(2, 0, true);
        Boundary.due("the first word", 1, x.lonely(0));
    }

    private static void promise33() {
        Boundary.at(33, "FILLS. BAD");
        for (int letter : NO_LETTERS) {
            Boundary.refused("letter " + letter, BAD, RICH, x -> x.fills(0, letter));
        }
        for (int person : NO_PEOPLE) {
            Boundary.refused("person " + person, BAD, RICH, x -> x.fills(person, 0));
        }
        int[] wants = {5, 4, 1};
        for (int p = 0; p < 3; p++) {
            int person = p;
            Boundary.told("person " + p, wants[p], RICH, x -> x.fills(person, 0));
            Boundary.told("letter 1", p == 2 ? 1 : 0, RICH, x -> x.fills(person, 1));
            Boundary.told("letter 25", 0, RICH, x -> x.fills(person, 25));
        }
        Boundary.at(Boundary.TERMS, "in how many COLUMNS they KNOW a WORD of it (not barred)");
        TownRiverBeast x = Worlds.rich();
        x.knows(0, 4, true);
        Boundary.due("two of a column", 5, x.fills(0, 0));
        x.knows(0, 0, false);
        Boundary.due("another of the column", 5, x.fills(0, 0));
        x.knows(0, 4, false);
        Boundary.due("none of the column", 4, x.fills(0, 0));
        x.ask(BAR, 1);
        Boundary.due("one is barred", 3, x.fills(0, 0));
        x.ask(0, 25);
        Boundary.due("whatever THE LETTER", 3, x.fills(0, 0));
    }

    private static void promise34() {
        Boundary.at(34, "GAINS. BAD; STUCK: nobody is there");
        for (int letter : NO_LETTERS) {
            Boundary.refused("letter " + letter, BAD, RICH, x -> x.gains(letter));
            Boundary.refused("letter " + letter + " ahead of STUCK", BAD, NEW, x -> x.gains(letter));
        }
        Boundary.refused("nobody", STUCK, NEW, x -> x.gains(0));
        Boundary.refused("nobody", STUCK, () -> Worlds.words(1), x -> x.gains(25));
        Boundary.told("somebody", 0, () -> Worlds.people(1), x -> x.gains(25));
        Boundary.told("letter 0", 0, RICH, x -> x.gains(0));
        Boundary.told("letter 1", 2, RICH, x -> x.gains(1));
        Boundary.at(Boundary.TERMS, "GAINS by a LETTER: who FILLS most, of several the first");
        TownRiverBeast x = Worlds.knowing(4, 1, 1, 1, 1, 1);
        Boundary.due("all alike", 0, x.gains(0));
        x.knows(0, 4, false);
        Boundary.due("the first of three", 1, x.gains(0));
        x.knows(1, 0, false);
        x.knows(2, 0, false);
        Boundary.due("the last", 3, x.gains(0));
        x.knows(3, 0, false);
        Boundary.due("all alike again", 0, x.gains(0));
        x.knows(0, 3, false);
        Boundary.due("one less", 1, x.gains(0));
    }

    private static void promise35() {
        Boundary.at(35, "THE SILENT ALPHABET: the LETTER at a second. BAD");
        for (int letter : NO_LETTERS) {
            Boundary.refused("letter " + letter, BAD, RICH, x -> x.silent(letter, 1, 0));
        }
        for (int rate : new int[] {0, 27, -1, LOW, HIGH}) {
            Boundary.refused("rate " + rate, BAD, RICH, x -> x.silent(0, rate, 0));
        }
        for (int second : new int[] {-1, 1001, LOW, HIGH}) {
            Boundary.refused("second " + second, BAD, RICH, x -> x.silent(0, 1, second));
        }
        Boundary.at(Boundary.TERMS, "so many LETTERS a second (1 to 26): the LETTER at a second (0 to 1000)");
        int[][] wants = {{0, 1, 0, 0}, {25, 1, 0, 25}, {24, 1, 1, 25}, {25, 1, 1, 0}, {0, 1, 25, 25}, {0, 1, 26, 0}, {0, 1, 27, 1},
            {0, 25, 1, 25}, {1, 25, 1, 0}, {0, 26, 1, 0}, {25, 26, 1, 25}, {0, 1, 1000, 12}, {25, 26, 1000, 25}, {25, 25, 1000, 13},
            {13, 13, 1, 0}, {12, 13, 1, 25}, {0, 26, 1000, 0}, {0, 13, 999, 13}};
        for (int[] r : wants) {
            Boundary.told("from " + r[0] + " by " + r[1] + " at " + r[2], r[3], RICH, x -> x.silent(r[0], r[1], r[2]));
        }
        Boundary.told("nobody need be there", 3, NEW, x -> x.silent(1, 2, 1));
    }

    /** Two people; the second alone knows a word of this letter. */
    private static TownRiverBeast knowsOf(int letter) {
        TownRiverBeast x = Worlds.people(2);
        x.word(0, letter, 0, 1, 0);
        x.knows(1, 0, true);
        return x;
    }

    private static void promise36() {
        Boundary.at(36, "The first second (0 to 25) of it at which a person FILLS most, alone; NONE. BAD. (NONE isn't refused.)");
        for (int letter : NO_LETTERS) {
            Boundary.refused("letter " + letter, BAD, RICH, x -> x.stop(letter, 1, 0));
        }
        for (int rate : new int[] {0, 27, -1, LOW, HIGH}) {
            Boundary.refused("rate " + rate, BAD, RICH, x -> x.stop(0, rate, 0));
        }
        for (int person : NO_PEOPLE) {
            Boundary.refused("person " + person, BAD, RICH, x -> x.stop(0, 1, person));
        }
        Boundary.refused("nobody", BAD, NEW, x -> x.stop(0, 1, 0));
        for (int letter = 0; letter < 26; letter++) {
            int one = letter;
            Boundary.told("from 0 to " + letter, letter, () -> knowsOf(one), x -> x.stop(0, 1, 1));
            Boundary.told("the other never", NONE, () -> knowsOf(one), x -> x.stop(0, 1, 0));
        }
        Boundary.told("from 25 around to 24", 25, () -> knowsOf(24), x -> x.stop(25, 1, 1));
        Boundary.told("from 25", 0, () -> knowsOf(25), x -> x.stop(25, 1, 1));
        Boundary.told("from 25 to 0", 1, () -> knowsOf(0), x -> x.stop(25, 1, 1));
        Boundary.told("by 26 always the same", 0, () -> knowsOf(3), x -> x.stop(3, 26, 1));
        Boundary.told("by 26 never another", NONE, () -> knowsOf(3), x -> x.stop(2, 26, 1));
        Boundary.told("by 25 down", 25, () -> knowsOf(1), x -> x.stop(0, 25, 1));
        Boundary.told("by 2 never", NONE, () -> knowsOf(1), x -> x.stop(0, 2, 1));
        Boundary.told("by 13 in one step", 1, () -> knowsOf(13), x -> x.stop(0, 13, 1));
        Boundary.at(Boundary.TERMS, "a told person FILLS most (alone); NONE");
        TownRiverBeast x = knowsOf(5);
        x.word(0, 5, 1, 1, 0);
        x.knows(0, 0, true);
        Boundary.due("as much as another", NONE, x.stop(5, 26, 1));
        x.knows(1, 1, true);
        Boundary.due("more than another", 0, x.stop(5, 26, 1));
        x.knows(0, 1, true);
        Boundary.due("as much again", NONE, x.stop(5, 26, 0));
        x.ask(BAR, 1);
        Boundary.due("no barred ones", NONE, x.stop(5, 26, 1));
        Boundary.told("nobody else is there", 0, () -> Worlds.people(1), y -> y.stop(0, 1, 0));
    }

    private interface Told {
        long of(TownRiverBeast x, int s, int n, int person);
    }

    private static void likeSheet(Told call) {
        for (int s : new int[] {-1, 8, LOW, HIGH}) {
            Boundary.refused("shelf " + s, BAD, RICH, x -> call.of(x, s, 0, 0));
        }
        for (int n : new int[] {-1, 6, LOW, HIGH}) {
            Boundary.refused(n + " of 40", BAD, RICH, x -> call.of(x, 4, n, 0));
            Boundary.refused(n + " ahead of OTHER", BAD, RICH, x -> call.of(x, 2, n, 0));
            Boundary.refused(n + " ahead of NOTHING", BAD, RICH, x -> call.of(x, 3, n, 0));
        }
        for (int person : NO_PEOPLE) {
            Boundary.refused("person " + person, BAD, RICH, x -> call.of(x, 0, 0, person));
            Boundary.refused("person " + person + " ahead of OTHER", BAD, RICH, x -> call.of(x, 2, 0, person));
            Boundary.refused("person " + person + " ahead of NOTHING", BAD, RICH, x -> call.of(x, 3, 0, person));
        }
        for (int n = 0; n <= 5; n++) {
            int many = n;
            Boundary.refused(n + " of a WORD", OTHER, RICH, x -> call.of(x, 2, many, 0));
            Boundary.refused(n + " of NOTHING", NOTHING, RICH, x -> call.of(x, 3, many, 0));
        }
        Boundary.refused("3 of two", BAD, RICH, x -> call.of(x, 1, 3, 0));
        Boundary.refused("1 of none", BAD, RICH, x -> call.of(x, 6, 1, 0));
        Boundary.refused("4 of three", BAD, RICH, x -> call.of(x, 5, 4, 0));
    }

    private static void promise37() {
        Boundary.at(37, "BAD SHELF, n, person; OTHER; NOTHING; BAD: fewer elements");
        likeSheet(TownRiverBeast::judge);
        Boundary.at(37, "A told SHEET of the first n elements (0 to 5) of the ROW in SHELF s, of a person: WRONG; NONE");
        for (int n = 0; n <= 5; n++) {
            int many = n;
            Boundary.told(n + " of five", NONE, RICH, x -> x.judge(0, many, 0));
            Boundary.told(n + " of five, of person 1", n == 5 ? 4 : NONE, RICH, x -> x.judge(0, many, 1));
            Boundary.told(n + " of five, of person 2", n == 0 ? NONE : 0, RICH, x -> x.judge(0, many, 2));
        }
        Boundary.told("none of none", NONE, RICH, x -> x.judge(6, 0, 0));
        Boundary.told("all of two", 0, RICH, x -> x.judge(1, 2, 0));
        Boundary.told("booleans 0, 1, 0", 2, RICH, x -> x.judge(5, 3, 0));
        Boundary.told("booleans 0, 1", NONE, RICH, x -> x.judge(5, 2, 0));
        Boundary.at(Boundary.TERMS, "WRONG: the first that can't be on a SHEET with those ahead of it; NONE.");
        for (int place = 0; place < 5; place++) {
            TownRiverBeast x = Worlds.rich();
            x.set(0, place, 7);
            Boundary.due("no word at " + place, place, x.judge(0, 5, 0));
            Boundary.due("those ahead of it", NONE, x.judge(0, place, 0));
            x.set(0, place, -1);
            Boundary.due("NONE at " + place, place, x.judge(0, 5, 0));
            x.set(0, 4, 7);
            Boundary.due("and another behind", place, x.judge(0, 5, 0));
        }
    }

    private static void promise38() {
        Boundary.at(38, "BAD; OTHER; NOTHING; BAD likewise; STUCK: it is WRONG");
        likeSheet(TownRiverBeast::takes);
        Boundary.refused("no WORDS", STUCK, RICH, x -> x.takes(1, 1, 0));
        Boundary.refused("the fifth is WRONG", STUCK, RICH, x -> x.takes(0, 5, 1));
        Boundary.refused("the first is WRONG", STUCK, RICH, x -> x.takes(0, 1, 2));
        Boundary.at(38, "What it TAKES");
        int[] sums = {0, 10, 14, 27, 28, 45};
        for (int n = 0; n <= 5; n++) {
            int many = n;
            Boundary.told(n + " of five", sums[n], RICH, x -> x.takes(0, many, 0));
        }
        Boundary.told("four of five, of person 1", 28, RICH, x -> x.takes(0, 4, 1));
        Boundary.told("none of none", 0, RICH, x -> x.takes(6, 0, 2));
        TownRiverBeast x = Worlds.of("columns 5;word 5 0 0 60 9;word 5 0 1 60 9;word 5 0 2 60 9;word 5 0 3 60 9;word 5 0 4 60 9/"
            + "person;knows 0 0;knows 0 1;knows 0 2;knows 0 3;knows 0 4");
        Check.row(x, 0, 0, 1, 2, 3, 4);
        Boundary.due("the most", 370, x.takes(0, 5, 0));
    }

    public static void main(String[] args) {
        promise30();
        promise31();
        promise32();
        promise33();
        promise34();
        promise35();
        promise36();
        promise37();
        promise38();
        Boundary.covers(30, 38);
        Check.end();
    }
}
