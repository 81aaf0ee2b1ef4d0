import java.util.Random;

/** FAULTS of many wrong texts, against another reader. */
public final class FaultTest {
    private static final int TEXTS = 40000;
    private static final String[] PIECES = {
        "word", "worth", "times", "law", "one", "two", "other", "alike", "errand", "after", ";", "a", "b", "ab", "ba", "abc",
        "0", "1", "9", "10", "99", "100", "0099", "00001", "12345", "abcdefgh", "abcdefghi", "#", "A", "1a"
    };
    private static final String[] LINES = {
        "word a worth 1;", "word b worth 99 times 9;", "word ab worth 0 times 1;", "word word worth 7;", "law one;", "law two;",
        "law other;", "alike a b;", "alike b c;", "errand a;", "errand b after a;", "errand ab after b;", "errand word;"
    };

    private FaultTest() {
    }

    public static void main(String[] args) {
        Random random = new Random(7);
        for (int i = 0; i < TEXTS; i++) {
            check(text(random));
        }
        Due.finish();
    }

    static String text(Random random) {
        StringBuilder text = new StringBuilder();
        boolean many = random.nextInt(10) == 0;
        for (int i = random.nextInt(many ? 40 : 8); i > 0; i--) {
            if (many) {
                text.append("word ").append((char) ('a' + i % 26)).append(i > 26 ? "x" : "").append(" worth 1;");
            } else {
                text.append(LINES[random.nextInt(LINES.length)]).append(random.nextInt(4) == 0 ? "\n " : "");
            }
        }
        for (int i = random.nextInt(3); i > 0; i--) {
            int at = random.nextInt(text.length() + 1);
            switch (random.nextInt(4)) {
                case 0 -> text.insert(at, PIECES[random.nextInt(PIECES.length)]);
                case 1 -> text.insert(at, " " + PIECES[random.nextInt(PIECES.length)] + " ");
                case 2 -> text.delete(at, Math.min(text.length(), at + 1 + random.nextInt(5)));
                default -> text.setLength(at);
            }
        }
        return text.toString();
    }

    private static void check(String text) {
        OtherReader other = new OtherReader(text);
        LastLetter x = new LastLetter();
        Due.is("tongue of '" + text + "'", Due.tell(x, text), other.fault == 0 ? other.words.size() : LastLetter.NONE);
        Due.is("fault of '" + text + "'", x.fault(0), other.fault);
        Due.is("place of '" + text + "'", x.fault(1), other.place);
    }
}
