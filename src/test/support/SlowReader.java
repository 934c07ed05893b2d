import java.util.ArrayList;
import java.util.List;
import java.util.regex.Matcher;
import java.util.regex.Pattern;

/** An evening read from a text, as the document's Terms tell it: token by token, into an evening that may be thrown away. */
final class SlowReader {
    private static final Pattern TOKEN = Pattern.compile("[a-z]+|[0-9]+|[^ ]");

    /** Where the first token stands that can't stand there. */
    static final class Fault extends Exception {
        private static final long serialVersionUID = 1;
        final int place;

        Fault(int place) {
            super("fault at " + place);
            this.place = place;
        }
    }

    private record Token(String text, int place) {
    }

    private final List<Token> tokens = new ArrayList<>();
    private int at = 0;
    private final SlowEvening evening;

    SlowReader(String text, SlowEvening evening) {
        Matcher m = TOKEN.matcher(text);
        while (m.find()) {
            tokens.add(new Token(m.group(), m.start()));
        }
        tokens.add(new Token("", text.length()));
        this.evening = evening;
    }

    int read() throws Fault {
        int statements = 0;
        do {
            statement();
            statements++;
        } while (goesOn());
        return statements;
    }

    private boolean goesOn() throws Fault {
        Token token = tokens.get(at);
        if (token.text.isEmpty()) {
            return false;
        }
        if (!token.text.equals(";")) {
            throw new Fault(token.place);
        }
        at++;
        return true;
    }

    private int number(int least, int most) throws Fault {
        Token token = tokens.get(at);
        if (!token.text.matches("[0-9]{1,3}") || Integer.parseInt(token.text) < least || Integer.parseInt(token.text) > most) {
            throw new Fault(token.place);
        }
        at++;
        return Integer.parseInt(token.text);
    }

    private void must(boolean is, Token token) throws Fault {
        if (!is) {
            throw new Fault(token.place);
        }
    }

    private void statement() throws Fault {
        Token token = tokens.get(at);
        at += token.text.isEmpty() ? 0 : 1;
        switch (token.text) {
            case "columns" -> {
                must(evening.words.isEmpty(), token);
                evening.columns = number(1, 5);
            }
            case "word" -> {
                must(evening.words.size() < 24, token);
                evening.words.add(new SlowEvening.Word(number(0, 5), number(0, 25), number(0, evening.columns - 1),
                    number(1, 60), number(0, 9)));
            }
            case "person" -> {
                must(evening.people() < 4, token);
                evening.sheets.add(new ArrayList<>());
                evening.scores.add(0);
            }
            case "knows" -> {
                int person = number(0, evening.people() - 1);
                evening.words.get(number(0, evening.words.size() - 1)).knownBy.add(person);
            }
            case "letter" -> evening.asked[0] = number(0, 25);
            case "need" -> evening.asked[1] = number(1, 5);
            case "bell" -> evening.asked[2] = number(1, 600);
            case "points" -> {
                for (int what = 3; what < 6; what++) {
                    evening.asked[what] = number(0, 50);
                }
            }
            case "sheet" -> sheet();
            default -> throw new Fault(token.place);
        }
    }

    private void sheet() throws Fault {
        int person = number(0, evening.people() - 1);
        List<Integer> line = new ArrayList<>();
        while (tokens.get(at).text.matches("[0-9]+")) {
            Token token = tokens.get(at);
            must(line.size() < 5, token);
            int w = number(0, 999);
            must(evening.canBeOn(person, w, line), token);
            line.add(w);
        }
        evening.sheets.set(person, line);
    }
}
