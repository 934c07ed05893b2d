/** Objects to which the tests of boundaries put their calls; each call makes a new one. */
final class Worlds {
    private Worlds() {
    }

    /**
     * Five columns, three people, seven words that take 10, 4, 13, 1, 20, 17, 5; 0 to 5 are of THE LETTER.
     * Person 0 knows 0, 1, 2, 3, 5; person 1 knows 0, 1, 2, 3; person 2 knows 4, the invented one.
     */
    static TownRiverBeast bare() {
        TownRiverBeast x = new TownRiverBeast();
        x.columns(5);
        x.word(0, 0, 0, 10, 0);
        x.word(1, 0, 1, 9, 0);
        x.word(2, 0, 2, 10, 3);
        x.word(3, 0, 3, 1, 0);
        x.word(4, 0, 0, 20, 0);
        x.word(5, 0, 4, 10, 2);
        x.word(0, 1, 0, 5, 0);
        for (int p = 0; p < 3; p++) {
            x.person();
        }
        for (int w = 0; w < 4; w++) {
            x.knows(0, w, true);
            x.knows(1, w, true);
        }
        x.knows(0, 5, true);
        x.knows(2, 4, true);
        return x;
    }

    /** The same with sheets: by seconds 10 14 27 28 45, 10 14 27, and 20; person 0 calls at 28. */
    static TownRiverBeast written() {
        TownRiverBeast x = bare();
        Check.sheet(x, 0, 0, 1, 2, 3, 5);
        Check.sheet(x, 1, 0, 1, 2);
        Check.sheet(x, 2, 4);
        x.show(7, -1);
        return x;
    }

    /** The same after a round, with another image, shelves of every sort (3 and 7 hold NOTHING), refusals. */
    static TownRiverBeast richButTape() {
        TownRiverBeast x = bare();
        x.image();
        Check.sheet(x, 1, 3);
        x.round();
        x.knows(2, 6, true);
        x.ask(2, 170);
        x.seed(77);
        Check.sheet(x, 0, 0, 1, 2, 3, 5);
        Check.sheet(x, 1, 0, 1, 2);
        Check.sheet(x, 2, 4);
        Check.row(x, 0, 0, 1, 2, 3, 5);
        x.row(1, 0, 2);
        x.set(1, 0, 7);
        x.set(1, 1, -7);
        x.show(2, 1);
        x.row(4, 3, 40);
        x.set(4, 0, 1L << 40);
        x.set(4, 39, 9);
        x.row(5, 4, 3);
        x.set(5, 1, 1);
        x.row(6, 1, 0);
        x.show(7, -1);
        x.set(2, 0, 0);
        x.set(3, 0, 0);
        x.score(9);
        return x;
    }

    /** And a tape that is an evening. */
    static TownRiverBeast rich() {
        TownRiverBeast x = richButTape();
        Check.feed(x, "need 2;person");
        return x;
    }

    /**
     * An evening of three by letter 17, worked out by hand. Words 0 to 5, one of each kind, take 9, 6, 15, 4, 5, 17, in
     * columns 0 1 2 2 0 3; word 6 is of letter 3. Written by: person 0: 1 at 6, 0 at 15, 2 at 30, 5 at 47, and calls;
     * person 1: 0 at 9, 3 at 13, 1 at 19; person 2: 4 at 5, 3 at 9. Points: 5 5 10 20; 5 5 5; 10 5.
     */
    static TownRiverBeast story() {
        return of("letter 17;word 0 17 0 9 0;word 1 17 1 12 6;word 2 17 2 12 3;word 3 17 2 9 0;word 4 17 0 5 0;word 5 17 3 8 4;"
            + "word 0 3 0 7 0/person;person;person;knows 0 0;knows 0 1;knows 0 2;knows 0 5;knows 1 0;knows 1 1;knows 1 3;"
            + "knows 1 4;knows 2 3;knows 2 4/sheet 0 1 0 2 5;sheet 1 0 3 1;sheet 2 4 3");
    }

    static TownRiverBeast people(int n) {
        TownRiverBeast x = new TownRiverBeast();
        for (int p = 0; p < n; p++) {
            x.person();
        }
        return x;
    }

    /** So many words of letter 0, column 0 and one second, that nobody knows. */
    static TownRiverBeast words(int n) {
        TownRiverBeast x = new TownRiverBeast();
        for (int w = 0; w < n; w++) {
            x.word(0, 0, 0, 1, 0);
        }
        return x;
    }

    static TownRiverBeast tape(int n) {
        TownRiverBeast x = new TownRiverBeast();
        for (int k = 0; k < n; k++) {
            x.feed(' ');
        }
        return x;
    }

    /** Five columns; people who all know these words of letter 0: word i of column i modulo 5, with its seconds. */
    static TownRiverBeast knowing(int people, int... seconds) {
        TownRiverBeast x = people(people);
        x.columns(5);
        for (int w = 0; w < seconds.length; w++) {
            x.word(0, 0, w % 5, seconds[w], 0);
            for (int p = 0; p < people; p++) {
                x.knows(p, w, true);
            }
        }
        return x;
    }

    /** An evening read from a text, which must be one. */
    static TownRiverBeast of(String text) {
        TownRiverBeast x = new TownRiverBeast();
        for (String part : text.split("/")) {
            Check.due("an evening of '" + part + "'", part.split(";", -1).length, Check.evening(x, part));
        }
        return x;
    }
}
