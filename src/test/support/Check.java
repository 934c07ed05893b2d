/** Counts answers that are not as due, and ends the test with 1 if there was one. */
final class Check {
    private static int wrong = 0;
    private static int all = 0;

    private Check() {
    }

    static void due(String what, long want, long got) {
        all++;
        if (want != got) {
            wrong++;
            if (wrong <= 40) {
                System.out.println(what + ": answered " + got + ", due is " + want);
            }
        }
    }

    static void feed(TownRiverBeast x, String text) {
        for (int i = 0; i < text.length(); i++) {
            x.feed(text.charAt(i));
        }
    }

    static int evening(TownRiverBeast x, String text) {
        feed(x, text);
        return x.evening();
    }

    /** Puts the numbers into a row of ints on the shelf. */
    static void row(TownRiverBeast x, int s, int... numbers) {
        x.row(s, 2, numbers.length);
        for (int i = 0; i < numbers.length; i++) {
            x.set(s, i, numbers[i]);
        }
    }

    static int sheet(TownRiverBeast x, int person, int... numbers) {
        row(x, 7, numbers);
        return x.sheet(7, numbers.length, person);
    }

    static void end() {
        System.out.println(wrong == 0 ? all + " answers are as due" : wrong + " of " + all + " answers are not as due");
        if (wrong != 0) {
            System.exit(1);
        }
    }
}
