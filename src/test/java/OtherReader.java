import java.util.ArrayList;
import java.util.List;
import java.util.regex.Matcher;
import java.util.regex.Pattern;

/** Reads a text in another way than the class: it first lists all TOKENS and then goes by the line's pattern. */
final class OtherReader {
    private static final Pattern TOKEN = Pattern.compile("([a-z]+)|([0-9]+)(?![a-z])|(;)");

    /** The FAULT, 0 if there is none, and its place. */
    int fault;
    int place = LastLetter.NONE;

    private record Token(String text, int place) {
        boolean isWord() {
            return !text.isEmpty() && Character.isLowerCase(text.charAt(0));
        }

        boolean isNumber() {
            return !text.isEmpty() && Character.isDigit(text.charAt(0));
        }
    }

    private static final class Fault extends RuntimeException {
        private static final long serialVersionUID = 1;
        final int number;
        final int place;

        Fault(int number, int place) {
            this.number = number;
            this.place = place;
        }
    }

    private final List<Token> tokens = new ArrayList<>();
    final List<String> words = new ArrayList<>();
    private final List<String> errands = new ArrayList<>();
    private int laws;
    private int alikes;
    private int next;

    OtherReader(String text) {
        try {
            read(text);
        } catch (Fault met) {
            fault = met.number;
            place = met.place;
        }
    }

    private void read(String text) {
        list(text);
        while (!here().text.isEmpty()) {
            Token first = take();
            switch (first.text) {
                case "word" -> word(first);
                case "law" -> law(first);
                case "alike" -> alike(first);
                case "errand" -> errand(first);
                default -> need(false, lexical(first), first);
            }
            Token stop = take();
            need(stop.text.equals(";"), lexical(stop), stop);
        }
    }

    /** A TOKEN that is none stays in the list as '#': its FAULT counts once it is come to. */
    private void list(String text) {
        int at = 0;
        Matcher matcher = TOKEN.matcher(text);
        while (true) {
            while (at < text.length() && (text.charAt(at) == ' ' || text.charAt(at) == '\n')) {
                at++;
            }
            if (at == text.length()) {
                tokens.add(new Token("", at));
                return;
            }
            matcher.region(at, text.length()).useTransparentBounds(true);
            boolean found = matcher.lookingAt();
            boolean cut = found && matcher.group(2) != null && matcher.end() < text.length() && Character.isDigit(text.charAt(matcher.end()));
            boolean tooLong = found && (matcher.group(1) != null && matcher.group().length() > 8
                    || matcher.group(2) != null && matcher.group().length() > 4);
            if (!found || cut || tooLong) {
                tokens.add(new Token("#", at));
                return;
            }
            tokens.add(new Token(matcher.group(), at));
            at = matcher.end();
        }
    }

    private Token here() {
        return tokens.get(Math.min(next, tokens.size() - 1));
    }

    private Token take() {
        Token token = here();
        next++;
        return token;
    }

    private static int lexical(Token token) {
        return token.text.equals("#") ? 1 : 2;
    }

    private static void need(boolean ok, int number, Token token) {
        if (!ok) {
            throw new Fault(number, token.place);
        }
    }

    private Token name() {
        Token token = take();
        need(token.isWord(), lexical(token), token);
        return token;
    }

    private void number(int least, int most) {
        Token token = take();
        need(token.isNumber(), lexical(token), token);
        int value = Integer.parseInt(token.text);
        need(value >= least && value <= most, 4, token);
    }

    private void word(Token first) {
        need(words.size() < 24, 2, first);
        Token name = name();
        need(!words.contains(name.text), 3, name);
        Token worth = take();
        need(worth.text.equals("worth"), lexical(worth), worth);
        number(0, 99);
        if (here().text.equals("times")) {
            take();
            number(1, 9);
        }
        words.add(name.text);
    }

    private void law(Token first) {
        need(laws++ == 0, 2, first);
        Token kind = take();
        need(List.of("one", "two", "other").contains(kind.text), lexical(kind), kind);
    }

    private void alike(Token first) {
        need(alikes++ < 10, 2, first);
        Token one = name();
        need(one.text.length() == 1, 2, one);
        Token other = name();
        need(other.text.length() == 1, 2, other);
        need(!one.text.equals(other.text), 3, other);
    }

    private void errand(Token first) {
        need(errands.size() < 6, 2, first);
        Token name = name();
        need(words.contains(name.text), 5, name);
        need(!errands.contains(name.text), 3, name);
        if (here().text.equals("after")) {
            take();
            Token after = name();
            need(errands.contains(after.text), 5, after);
        }
        errands.add(name.text);
    }
}
