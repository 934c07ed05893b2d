import java.util.function.Supplier;

/** What comes of a round, promises 39 to 44: each sentence that names a boundary, from both sides. */
public final class Boundary39To44Test {
    private static final int BAD = Boundary.BAD;
    private static final int NONE = Boundary.NONE;
    private static final int LOW = Boundary.LOW;
    private static final int HIGH = Boundary.HIGH;
    private static final int NEED = 1;
    private static final int BELL = 2;
    private static final int ALONE = 3;
    private static final int OWN = 4;
    private static final int VOTE = 6;
    private static final Supplier<TownRiverBeast> RICH = Worlds::rich;
    private static final Supplier<TownRiverBeast> NEW = TownRiverBeast::new;
    private static final int[] NO_PEOPLE = {-1, 3, LOW, HIGH};

    private static void promise39() {
        Boundary.at(39, "Who has KEPT a WORD (bits of PEOPLE). BAD");
        for (int word : new int[] {-1, 7, LOW, HIGH}) {
            Boundary.refused("word " + word, BAD, RICH, x -> x.keptBy(word));
        }
        Boundary.refused("no words", BAD, () -> Worlds.people(1), x -> x.keptBy(0));
        Boundary.told("nobody", 0, () -> Worlds.words(24), x -> x.keptBy(23));
        int[] wants = {3, 3, 3, 1, 4, 0, 0};
        for (int w = 0; w < 7; w++) {
            int word = w;
            Boundary.told("word " + w, wants[w], RICH, x -> x.keptBy(word));
        }
        TownRiverBeast x = Worlds.knowing(4, 1);
        for (int p = 0; p < 4; p++) {
            Check.sheet(x, p, 0);
            Boundary.due(p + " and those ahead", (2 << p) - 1, x.keptBy(0));
        }
        x = Worlds.rich();
        x.ask(BELL, 27);
        Boundary.due("the last at BELL", 3, x.keptBy(2));
        x.ask(BELL, 26);
        Boundary.due("one second behind BELL", 0, x.keptBy(2));
        x.ask(VOTE, 1);
        Boundary.due("voted down", 0, x.keptBy(4));
    }

    private static void promise40() {
        Boundary.at(40, "Who besides a person has most POINTS, of several the first; NONE: nobody else is there. BAD. (NONE isn't refused.)");
        for (int person : NO_PEOPLE) {
            Boundary.refused("person " + person, BAD, RICH, x -> x.rival(person));
        }
        Boundary.refused("nobody", BAD, NEW, x -> x.rival(0));
        Boundary.told("nobody else", NONE, () -> Worlds.people(1), x -> x.rival(0));
        int[] wants = {1, 0, 0};
        for (int p = 0; p < 3; p++) {
            int person = p;
            Boundary.told("of " + p, wants[p], RICH, x -> x.rival(person));
        }
        for (int p = 0; p < 4; p++) {
            int person = p;
            Boundary.told("of four alike, of " + p, p == 0 ? 1 : 0, () -> Worlds.people(4), x -> x.rival(person));
        }
        Boundary.told("of two, of the first", 1, () -> Worlds.people(2), x -> x.rival(0));
        Boundary.told("of two, of the second", 0, () -> Worlds.people(2), x -> x.rival(1));
        TownRiverBeast x = Worlds.knowing(4, 1, 1, 1, 1, 1);
        Check.sheet(x, 3, 0);
        Boundary.due("the last has a point", 3, x.rival(0));
        Boundary.due("but not against itself", 0, x.rival(3));
        Check.sheet(x, 2, 1);
        Boundary.due("the first of two", 2, x.rival(0));
        Boundary.due("the other of two", 3, x.rival(2));
    }

    private static void promise41() {
        Boundary.at(41, "less the most of another (0: nobody else is there), would be most, of several the least. BAD");
        for (int person : NO_PEOPLE) {
            Boundary.refused("person " + person, BAD, RICH, x -> x.needFor(person));
        }
        Boundary.refused("nobody", BAD, NEW, x -> x.needFor(0));
        Boundary.told("no sheet: the least", 1, () -> Worlds.people(1), x -> x.needFor(0));
        Boundary.told("no sheets: the least", 1, () -> Worlds.people(4), x -> x.needFor(3));
        int[] wants = {5, 1, 1};
        for (int p = 0; p < 3; p++) {
            int person = p;
            Boundary.told("of " + p, wants[p], RICH, x -> x.needFor(person));
        }
        for (int words = 0; words <= 5; words++) {
            TownRiverBeast x = Worlds.knowing(1, 1, 1, 1, 1, 1);
            Check.sheet(x, 0, java.util.Arrays.copyOf(new int[] {0, 1, 2, 3, 4}, words));
            Boundary.due(words + " words", Math.max(1, words), x.needFor(0));
            x.ask(BELL, 3);
            Boundary.due(words + " words, three in time", Math.max(1, Math.min(3, words)), x.needFor(0));
            Boundary.due("in thought", 4, x.status(4));
        }
        TownRiverBeast x = Worlds.knowing(2, 9, 9, 9, 9, 9);
        Check.sheet(x, 0, 0);
        Check.sheet(x, 1, 1, 2);
        Boundary.due("before the other gains", 1, x.needFor(0));
        Boundary.due("the other's", 2, x.needFor(1));
        x.ask(ALONE, 0);
        Boundary.due("no points: the least", 1, x.needFor(1));
        less();
    }

    /** Whatever NEED is the other has more: of losses the least one counts. */
    private static void less() {
        TownRiverBeast x = Worlds.knowing(2, 5, 5, 5, 20, 20);
        Check.sheet(x, 1, 0, 1, 2);
        Check.sheet(x, 0, 3, 4);
        Boundary.due("the least loss", 1, x.needFor(0));
        Boundary.due("most for the other", 3, x.needFor(1));
        x.ask(BELL, 4);
        Boundary.due("nobody gains", 1, x.needFor(1));
    }

    private static void promise42() {
        Boundary.at(42, "(what counts of it) later than THE CALL; 0: not later. BAD");
        for (int person : NO_PEOPLE) {
            Boundary.refused("person " + person, BAD, RICH, x -> x.late(person));
        }
        Boundary.refused("nobody", BAD, NEW, x -> x.late(0));
        Boundary.told("no sheet", 0, () -> Worlds.people(1), x -> x.late(0));
        int[] wants = {17, 0, 0};
        for (int p = 0; p < 3; p++) {
            int person = p;
            Boundary.told("of " + p, wants[p], RICH, x -> x.late(person));
        }
        int[] bells = {26, 27, 28, 29};
        int[] lates = {1, 0, 0, 0};
        for (int k = 0; k < bells.length; k++) {
            TownRiverBeast x = Worlds.rich();
            x.ask(BELL, bells[k]);
            Boundary.due("BELL " + bells[k], lates[k], x.late(1));
            Boundary.due("BELL " + bells[k], 45 - Math.min(28, bells[k]), x.late(0));
        }
        TownRiverBeast x = Worlds.rich();
        x.knows(0, 5, false);
        Boundary.due("only what counts", 0, x.late(0));
        x.ask(NEED, 1);
        Boundary.due("later than one word", 18, x.late(0));
        x.ask(0, 25);
        Boundary.due("nothing counts", 0, x.late(0));
    }

    private static void promise43() {
        Boundary.at(43, "in which two or more have KEPT the same WORD");
        Boundary.told("nobody", 0, NEW, TownRiverBeast::clashes);
        Boundary.told("in thought", 3, RICH, TownRiverBeast::clashes);
        TownRiverBeast x = Worlds.knowing(4, 1, 1, 1, 1, 1, 1);
        Check.sheet(x, 0, 0);
        Boundary.due("one", 0, x.clashes());
        Check.sheet(x, 1, 5);
        Boundary.due("two others of a column", 0, x.clashes());
        Check.sheet(x, 1, 0);
        Boundary.due("two", 1, x.clashes());
        Check.sheet(x, 2, 0);
        Boundary.due("three", 1, x.clashes());
        Check.sheet(x, 2, 5);
        Check.sheet(x, 3, 5);
        Boundary.due("two words of a column", 1, x.clashes());
        x.ask(NEED, 5);
        for (int p = 0; p < 2; p++) {
            Check.sheet(x, p, 0, 1, 2, 3, 4);
        }
        Boundary.due("in all columns", 5, x.clashes());
        x.ask(BELL, 4);
        Boundary.due("the last behind BELL", 4, x.clashes());
        x.ask(BELL, 5);
        Boundary.due("the last at BELL", 5, x.clashes());
    }

    private static void promise44() {
        Boundary.at(44, "The COLUMN in which fewest have KEPT a WORD, of several the first");
        Boundary.told("nobody", 0, NEW, TownRiverBeast::empty);
        Boundary.told("in thought", 4, RICH, TownRiverBeast::empty);
        TownRiverBeast x = Worlds.knowing(2, 1, 1, 1, 1, 1, 1);
        x.ask(NEED, 5);
        int[] sheet = {0, 1, 2, 3, 4};
        for (int n = 0; n <= 5; n++) {
            Check.sheet(x, 0, java.util.Arrays.copyOf(sheet, n));
            Boundary.due("the first " + n + " are kept", n % 5, x.empty());
        }
        Check.sheet(x, 1, 5, 1, 2, 3);
        Boundary.due("one, else two", 4, x.empty());
        Check.sheet(x, 1, 5, 1, 3);
        Boundary.due("two of one, the first", 2, x.empty());
        x.ask(BELL, 2);
        Boundary.due("behind BELL", 2, x.empty());
        for (int n = 1; n <= 5; n++) {
            TownRiverBeast y = Worlds.people(1);
            y.columns(n);
            y.word(0, 0, 0, 1, 0);
            y.knows(0, 0, true);
            Check.sheet(y, 0, 0);
            Boundary.due("of " + n + " columns", n == 1 ? 0 : 1, y.empty());
        }
        x = Worlds.rich();
        x.ask(OWN, 0);
        Boundary.due("whatever the points", 4, x.empty());
    }

    public static void main(String[] args) {
        promise39();
        promise40();
        promise41();
        promise42();
        promise43();
        promise44();
        Boundary.covers(39, 44);
        Check.end();
    }
}
