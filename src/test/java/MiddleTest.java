import java.util.Random;

/** TONGUES of 7 to 14 WORDS, the most that are not SPENT: rows and games must be as the recursion has them. */
public final class MiddleTest {
    private MiddleTest() {
    }

    public static void main(String[] args) {
        Random random = new Random(14);
        LastLetter x = new LastLetter();
        for (int i = 0; i < 60; i++) {
            int words = i < 6 ? 14 : 7 + random.nextInt(7);
            compare(i % 5 == 0 ? new LastLetter() : x, text(random, words));
        }
        Due.finish();
    }

    private static String text(Random random, int words) {
        int letters = 2 + random.nextInt(words > 12 ? 8 : 5);
        int worths = random.nextInt(3) == 0 ? 3 : 100;
        StringBuilder text = new StringBuilder();
        for (int i = 0; i < words; i++) {
            char first = (char) ('a' + random.nextInt(letters));
            char last = (char) ('a' + random.nextInt(letters));
            text.append("word ").append(first).append((char) ('a' + i)).append(last);
            text.append(" worth ").append(random.nextInt(worths)).append(";");
        }
        if (random.nextInt(4) == 0) {
            text.append("law other;");
        }
        if (random.nextInt(4) == 0) {
            text.append("alike a b;");
        }
        return text.toString();
    }

    private static void compare(LastLetter x, String text) {
        x.end(0);
        Due.tell(x, text);
        Model m = new Model(text);
        Memo memo = new Memo(m);
        String at = text + ": ";
        Due.is(at + "words", x.about(0), m.n());
        rows(at + "all", x, memo, x.all(false), memo.all());
        rows(at + "round", x, memo, x.all(true), memo.round());
        rows(at + "longest", x, memo, x.longest(), memo.most(memo.every(), false));
        rows(at + "worthy", x, memo, x.worthy(), memo.most(memo.every(), true));
        rows(at + "parted", x, memo, x.parted(), memo.parted());
        for (int v = 0; v < m.n(); v++) {
            rows(at + "missed(" + v + ")", x, memo, x.missed(v), memo.missed(v));
            Due.is(at + "score(" + v + ")", x.score(v), memo.score(v));
            Due.is(at + "deep(" + v + ")", x.deep(v), memo.deep(v));
            Due.is(at + "game(" + v + ")", x.game(v), memo.game(v));
            Due.is(at + "wins(" + v + ")", x.wins(v), memo.wins(v));
        }
    }

    private static void rows(String call, LastLetter x, Memo memo, int got, int want) {
        Due.is(call, got, want);
        Due.lies(call, x, memo.row.stream().mapToInt(Integer::intValue).toArray());
    }
}
