import java.util.function.Supplier;

/** Every call on an object that has as many words, people, columns and words on sheets as there can be. */
public final class BoundaryFullTest {
    private static final int BAD = Boundary.BAD;
    private static final int STUCK = Boundary.STUCK;
    private static final int FULL = Boundary.FULL;
    private static final int NONE = Boundary.NONE;
    private static final int LAST = 23;
    private static final Supplier<TownRiverBeast> WORLD = BoundaryFullTest::full;

    /**
     * 24 words of letter 25, word w of column w modulo 5; word w takes 1 and w by 5 seconds. All four know all.
     * Person p has words 5p to 5p and 4 on the sheet, NEED is 5: person 0 calls at second 5.
     */
    private static TownRiverBeast full() {
        TownRiverBeast x = Worlds.people(4);
        x.columns(5);
        x.ask(0, 25);
        x.ask(1, 5);
        for (int w = 0; w <= LAST; w++) {
            x.word(0, 25, w % 5, 1 + w / 5, 0);
            for (int p = 0; p < 4; p++) {
                x.knows(p, w, true);
            }
        }
        for (int p = 0; p < 4; p++) {
            Check.sheet(x, p, 5 * p, 5 * p + 1, 5 * p + 2, 5 * p + 3, 5 * p + 4);
        }
        return x;
    }

    private static void room() {
        Boundary.at(Boundary.TERMS, "WORDS have numbers, 0 on, 24 at most");
        Boundary.refused("a word more", FULL, WORLD, x -> x.word(0, 0, 0, 1, 0));
        Boundary.told("the last word's letter", 25, WORLD, x -> x.wordOf(LAST, 1));
        Boundary.refused("behind the last word", BAD, WORLD, x -> x.wordOf(LAST + 1, 1));
        Boundary.told("who keeps the last", 0, WORLD, x -> x.keptBy(LAST));
        Boundary.refused("columns", STUCK, WORLD, x -> x.columns(5));
        Boundary.fault("word 0 0 0 1 0", 0, WORLD);
        Boundary.fault("knows 0 24", 8, WORLD);
        Boundary.told("the last word on a sheet", NONE, () -> withRow(LAST), x -> x.judge(7, 1, 3));
        Boundary.told("behind the last word", 0, () -> withRow(LAST + 1), x -> x.judge(7, 1, 3));
        Boundary.refused("behind the last word", STUCK, () -> withRow(LAST + 1), x -> x.sheet(7, 1, 3));
        Boundary.refused("behind the last word", STUCK, () -> withRow(LAST + 1), x -> x.takes(7, 1, 3));
        Boundary.refused("behind the last word", BAD, WORLD, x -> x.show(0, LAST + 1));
        Boundary.refused("behind the last word", BAD, WORLD, x -> x.knows(0, LAST + 1, true));
        Boundary.refused("behind the last word", BAD, WORLD, x -> x.keptBy(LAST + 1));
        Boundary.fault("sheet 3 24", 8, WORLD);
        Boundary.at(Boundary.TERMS, "PEOPLE have numbers, 0 on, 4 at most");
        Boundary.refused("a person more", FULL, WORLD, TownRiverBeast::person);
        Boundary.told("the last person's score", 0, WORLD, x -> x.score(3));
        Boundary.refused("behind the last person", BAD, WORLD, x -> x.score(4));
        Boundary.fault("person", 0, WORLD);
        Boundary.fault("knows 4 0", 6, WORLD);
        Boundary.at(Boundary.TERMS, "(5 at most; none at first)");
        Boundary.told("the last on the last sheet", 19, WORLD, x -> x.sheetOf(3, 4));
        Boundary.refused("behind it", STUCK, WORLD, x -> x.sheetOf(3, 5));
        Boundary.fault("sheet 3 0 1 2 3 4 5", 18, WORLD);
        Boundary.told("the last two words change places", 19, BoundaryFullTest::changed, x -> x.sheetOf(3, 3));
    }

    private static TownRiverBeast withRow(int number) {
        TownRiverBeast x = full();
        Check.row(x, 7, number);
        return x;
    }

    private static TownRiverBeast changed() {
        TownRiverBeast x = full();
        Boundary.due("the one that is at i then", 18, x.swap(3, 4, 3));
        return x;
    }

    private static void ofRound() {
        Boundary.at(Boundary.TERMS, "THE CALL: the least second by which one has WRITTEN NEED WORDS");
        Boundary.told("call", 5, WORLD, TownRiverBeast::call);
        Boundary.told("caller", 0, WORLD, TownRiverBeast::caller);
        int[] kept = {31, 3 << 5, 1 << 10, 1 << 15};
        int[] points = {80, 20, 10, 10};
        int[] late = {0, 5, 10, 15};
        int[] rival = {1, 0, 0, 0};
        int[] need = {5, 1, 1, 1};
        for (int p = 0; p < 4; p++) {
            int person = p;
            Boundary.told("written by 600", 31L << 5 * p, WORLD, x -> x.written(person, 600));
            Boundary.told("kept", kept[p], WORLD, x -> x.kept(person));
            Boundary.told("points", points[p], WORLD, x -> x.points(person, NONE));
            Boundary.told("points of the last column", p == 0 ? 20 : 0, WORLD, x -> x.points(person, 4));
            Boundary.told("late", late[p], WORLD, x -> x.late(person));
            Boundary.told("rival", rival[p], WORLD, x -> x.rival(person));
            Boundary.told("needFor", need[p], WORLD, x -> x.needFor(person));
            Boundary.told("fills", 5, WORLD, x -> x.fills(person, 25));
            Boundary.told("stop", NONE, WORLD, x -> x.stop(25, 26, person));
        }
        Boundary.told("winner", 0, WORLD, TownRiverBeast::winner);
        Boundary.told("clashes", 0, WORLD, TownRiverBeast::clashes);
        Boundary.told("empty", 2, WORLD, TownRiverBeast::empty);
        Boundary.told("gains", 0, WORLD, x -> x.gains(25));
        Boundary.told("lonely", 0, WORLD, x -> x.lonely(25));
    }

    private static void inThought() {
        Boundary.at(Boundary.TERMS, "WHAT COMES OF IT (in thought; nothing is changed)");
        int[][] best = {{80, 31, 5}, {25, 31, 5}, {25, 31, 5}, {25, 31, 5}};
        int[] order = {80, 20, 10, 10};
        for (int p = 0; p < 4; p++) {
            int person = p;
            for (int what = 0; what < 3; what++) {
                int one = what;
                Boundary.told("best " + what + " of " + p, best[p][what], WORLD, x -> x.best(person, one));
            }
            Boundary.told("points by the best order", order[p], WORLD, x -> x.order(person, NONE));
            for (int i = 0; i < 5; i++) {
                int place = i;
                Boundary.told("the best order", 5 * p + i, WORLD, x -> x.order(person, place));
            }
            Boundary.refused("behind it", STUCK, WORLD, x -> x.order(person, 5));
            Boundary.told("nothing to learn", NONE, WORLD, x -> x.learn(person, 0));
            Boundary.told("nothing to learn", 0, WORLD, x -> x.learn(person, 1));
        }
        Boundary.told("best word in the first place", 0, WORLD, x -> x.bestWord(3, 0));
        Boundary.told("best word in the last place", 4, WORLD, x -> x.bestWord(3, 4));
        Boundary.told("best word of the caller", 4, WORLD, x -> x.bestWord(0, 4));
        Supplier<TownRiverBeast> unknown = () -> {
            TownRiverBeast x = full();
            x.knows(3, LAST, false);
            return x;
        };
        Boundary.told("the last word to learn", LAST, unknown, x -> x.learn(3, 0));
        Boundary.told("by no more", 0, unknown, x -> x.learn(3, 1));
        Supplier<TownRiverBeast> lonely = () -> {
            TownRiverBeast x = unknown.get();
            x.knows(0, LAST, false);
            x.knows(2, LAST, false);
            return x;
        };
        Boundary.told("the last word is lonely", 1 << LAST, lonely, x -> x.lonely(25));
        againstAllOthers();
    }

    /** Three others with five words each, all kept; person 0 knows just the last of these. */
    private static void againstAllOthers() {
        Boundary.at(Boundary.TERMS, "the others' as they are");
        TownRiverBeast x = Worlds.knowing(4, 1, 1, 1, 1, 1, 1, 1, 1, 1, 1, 1, 1, 1, 1, 1);
        x.ask(1, 5);
        for (int p = 1; p < 4; p++) {
            int w = 5 * p - 5;
            Check.sheet(x, p, w, w + 1, w + 2, w + 3, w + 4);
        }
        for (int w = 0; w < 14; w++) {
            x.knows(0, w, false);
        }
        Boundary.due("the last one's last word is there too", 5, x.best(0, 0));
        Boundary.due("the last one's last word", 1 << 14, x.best(0, 1));
        x.ask(5, 0);
        Boundary.due("nothing for what is alike", 0, x.best(0, 1));
    }

    private static void shelves() {
        Boundary.at(Boundary.TERMS, "SHELVES 0 to 7 hold NOTHING (at first), a ROW, or a WORD.");
        TownRiverBeast x = full();
        for (int s = 0; s < 8; s++) {
            Boundary.due("a WORD on each", 1, x.show(s, LAST - s));
            Boundary.due("a WORD on each", 10 + LAST - s, x.holds(s));
            Boundary.due("what it takes", s < 4 ? 5 : 4, x.says(s, 0));
        }
        Boundary.due("all eight", 8, x.status(18));
        x.image();
        Boundary.due("all stay", 1, x.back());
        Boundary.due("all stay", 8, x.status(18));
        Boundary.at(Boundary.TERMS, "and 0 to 40 elements (0, or not so, at first)");
        for (int s = 0; s < 8; s++) {
            Boundary.due("a ROW on each", 1, x.row(s, s % 5, 40));
            Boundary.due("at first", 0, x.element(s, 39));
            x.set(s, 39, -1);
        }
        for (int s = 0; s < 8; s++) {
            Boundary.due("each its own", s % 5 == 4 ? 1 : -1, x.element(s, 39));
        }
    }

    private static void inTruth() {
        Boundary.at(Boundary.TERMS, "KEPT WORDS are USED");
        TownRiverBeast x = full();
        Boundary.due("takeBest of the last person", 25, x.takeBest(3));
        Boundary.due("the last of it", 4, x.sheetOf(3, 4));
        Boundary.due("points of the first now", 25, x.points(0, NONE));
        Boundary.due("clashes", 5, x.clashes());
        Boundary.due("round", 0, x.round());
        Boundary.due("used", 8, x.status(19));
        int[] scores = {25, 20, 10, 25};
        for (int p = 0; p < 4; p++) {
            Boundary.due("score " + p, scores[p], x.score(p));
            Check.sheet(x, p, LAST);
        }
        x.ask(1, 1);
        Boundary.due("all with the last word", 0, x.round());
        Boundary.due("used", 9, x.status(19));
        Boundary.due("the last is used", 1, x.wordOf(LAST, 6));
        for (int p = 0; p < 4; p++) {
            Boundary.due("score " + p, scores[p] + 5, x.score(p));
        }
        Boundary.due("again", 9, x.again());
        Boundary.due("the last is not", 0, x.wordOf(LAST, 6));
        Boundary.due("nine rounds, of four alike the first", 0, x.rounds(9));
    }

    public static void main(String[] args) {
        room();
        ofRound();
        inThought();
        shelves();
        inTruth();
        Check.end();
    }
}
