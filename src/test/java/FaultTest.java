import java.util.ArrayList;
import java.util.List;
import java.util.Random;
import java.util.regex.Matcher;
import java.util.regex.Pattern;

/** FAULTS of many wrong texts, against a reader that first lists all TOKENS and then goes by the line's pattern. */
public final class FaultTest {
    private static final int TEXTS = 40000;
    private static final Pattern TOKEN = Pattern.compile("([a-z]+)|([0-9]+)(?![a-z])|(;)");
    private static final String[] PIECES = {
        "word", "worth", "times", "law", "one", "two", "other", "alike", "errand", "after", ";", "a", "b", "ab", "ba", "abc",
        "0", "1", "9", "10", "99", "100", "0099", "00001", "12345", "abcdefgh", "abcdefghi", "#", "A", "1a"
    };
    private static final String[] LINES = {
        "word a worth 1;", "word b worth 99 times 9;", "word ab worth 0 times 1;", "word word worth 7;", "law one;", "law two;",
        "law other;", "alike a b;", "alike b c;", "errand a;", "errand b after a;", "errand ab after b;", "errand word;"
    };

    private record Token(String text, int place) {
        boolean isWord() {
            return !text.isEmpty() && Character.isLowerCase(text.charAt(0));
        }

        boolean isNumber() {
            return !text.isEmpty() && Character.isDigit(text.charAt(0));
        }
    }

    private static final class Fault extends RuntimeException {
        private static final long serialVersionUID = 1;
        final int number;
        final int place;

        Fault(int number, int place) {
            this.number = number;
            this.place = place;
        }
    }

    private final List<Token> tokens = new ArrayList<>();
    private final List<String> words = new ArrayList<>();
    private final List<String> errands = new ArrayList<>();
    private int laws;
    private int alikes;
    private int next;

    private FaultTest() {
    }

    public static void main(String[] args) {
        Random random = new Random(7);
        for (int i = 0; i < TEXTS; i++) {
            check(text(random));
        }
        Due.finish();
    }

    private static String text(Random random) {
        StringBuilder text = new StringBuilder();
        boolean many = random.nextInt(10) == 0;
        for (int i = random.nextInt(many ? 40 : 8); i > 0; i--) {
            if (many) {
                text.append("word ").append((char) ('a' + i % 26)).append(i > 26 ? "x" : "").append(" worth 1;");
            } else {
                text.append(LINES[random.nextInt(LINES.length)]).append(random.nextInt(4) == 0 ? "\n " : "");
            }
        }
        for (int i = random.nextInt(3); i > 0; i--) {
            int at = random.nextInt(text.length() + 1);
            switch (random.nextInt(4)) {
                case 0 -> text.insert(at, PIECES[random.nextInt(PIECES.length)]);
                case 1 -> text.insert(at, " " + PIECES[random.nextInt(PIECES.length)] + " ");
                case 2 -> text.delete(at, Math.min(text.length(), at + 1 + random.nextInt(5)));
                default -> text.setLength(at);
            }
        }
        return text.toString();
    }

    private static void check(String text) {
        int number = 0;
        int place = LastLetter.NONE;
        FaultTest model = new FaultTest();
        try {
            model.read(text);
        } catch (Fault fault) {
            number = fault.number;
            place = fault.place;
        }
        LastLetter x = new LastLetter();
        Due.is("tongue of '" + text + "'", Due.tell(x, text), number == 0 ? model.words.size() : LastLetter.NONE);
        Due.is("fault of '" + text + "'", x.fault(0), number);
        Due.is("place of '" + text + "'", x.fault(1), place);
    }

    private void read(String text) {
        list(text);
        while (!here().text.isEmpty()) {
            Token first = take();
            switch (first.text) {
                case "word" -> word(first);
                case "law" -> law(first);
                case "alike" -> alike(first);
                case "errand" -> errand(first);
                default -> need(false, lexical(first), first);
            }
            Token stop = take();
            need(stop.text.equals(";"), lexical(stop), stop);
        }
    }

    /** A TOKEN that is none stays in the list as '#': its FAULT counts once it is come to. */
    private void list(String text) {
        int at = 0;
        Matcher matcher = TOKEN.matcher(text);
        while (true) {
            while (at < text.length() && (text.charAt(at) == ' ' || text.charAt(at) == '\n')) {
                at++;
            }
            if (at == text.length()) {
                tokens.add(new Token("", at));
                return;
            }
            matcher.region(at, text.length()).useTransparentBounds(true);
            boolean found = matcher.lookingAt();
            boolean cut = found && matcher.group(2) != null && matcher.end() < text.length() && Character.isDigit(text.charAt(matcher.end()));
            boolean tooLong = found && (matcher.group(1) != null && matcher.group().length() > 8
                    || matcher.group(2) != null && matcher.group().length() > 4);
            if (!found || cut || tooLong) {
                tokens.add(new Token("#", at));
                return;
            }
            tokens.add(new Token(matcher.group(), at));
            at = matcher.end();
        }
    }

    private Token here() {
        return tokens.get(Math.min(next, tokens.size() - 1));
    }

    private Token take() {
        Token token = here();
        next++;
        return token;
    }

    private static int lexical(Token token) {
        return token.text.equals("#") ? 1 : 2;
    }

    private static void need(boolean ok, int number, Token token) {
        if (!ok) {
            throw new Fault(number, token.place);
        }
    }

    private Token name() {
        Token token = take();
        need(token.isWord(), lexical(token), token);
        return token;
    }

    private void number(int least, int most) {
        Token token = take();
        need(token.isNumber(), lexical(token), token);
        int value = Integer.parseInt(token.text);
        need(value >= least && value <= most, 4, token);
    }

    private void word(Token first) {
        need(words.size() < 24, 2, first);
        Token name = name();
        need(!words.contains(name.text), 3, name);
        Token worth = take();
        need(worth.text.equals("worth"), lexical(worth), worth);
        number(0, 99);
        if (here().text.equals("times")) {
            take();
            number(1, 9);
        }
        words.add(name.text);
    }

    private void law(Token first) {
        need(laws++ == 0, 2, first);
        Token kind = take();
        need(List.of("one", "two", "other").contains(kind.text), lexical(kind), kind);
    }

    private void alike(Token first) {
        need(alikes++ < 10, 2, first);
        Token one = name();
        need(one.text.length() == 1, 2, one);
        Token other = name();
        need(other.text.length() == 1, 2, other);
        need(!one.text.equals(other.text), 3, other);
    }

    private void errand(Token first) {
        need(errands.size() < 6, 2, first);
        Token name = name();
        need(words.contains(name.text), 5, name);
        need(!errands.contains(name.text), 3, name);
        if (here().text.equals("after")) {
            take();
            Token after = name();
            need(errands.contains(after.text), 5, after);
        }
        errands.add(name.text);
    }
}
