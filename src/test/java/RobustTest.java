import java.util.Random;

/** Any arguments in any state: no call throws, and the same calls give the same answers. */
public final class RobustTest {
    private static final int RUNS = 300;
    private static final int CALLS = 512;
    private static final String[] PIECES = {
        "word ", "a", "ab ", "ba", " worth 1", " worth 99;", "worth", " times 9;", ";", "law one;", "law two;", "law other;",
        "alike a b;", "alike", " after ", "errand ", "errand ab;", "word ab worth 5;", "word ba worth 7 times 3;", "12345",
        "7x", "#", "\t", "\n", "abcdefghi", "word abcdefgh worth 0;", "word c worth 3;", "word bc worth 1;", "word cab worth 2;"
    };

    private RobustTest() {
    }

    public static void main(String[] args) {
        for (int run = 0; run < RUNS; run++) {
            long once = answers(run);
            Due.is("run " + run + " a second time", answers(run), once);
        }
        Due.finish();
    }

    private static long answers(int run) {
        Random random = new Random(run);
        LastLetter x = new LastLetter();
        long sum = 0;
        for (int call = 0; call < CALLS; call++) {
            long answer = random.nextInt(12) == 0 ? told(x, random) : answer(x, random);
            sum = sum * 31 + answer;
        }
        return sum;
    }

    private static int told(LastLetter x, Random random) {
        StringBuilder text = new StringBuilder();
        boolean right = random.nextInt(3) > 0;
        for (int i = random.nextInt(14); i > 0; i--) {
            if (right) {
                text.append("word ").append((char) ('a' + random.nextInt(4))).append((char) ('a' + i))
                        .append((char) ('a' + random.nextInt(4))).append(" worth ").append(random.nextInt(100)).append(';');
            } else {
                text.append(PIECES[random.nextInt(PIECES.length)]);
            }
        }
        if (right && random.nextBoolean()) {
            text.append("law other;");
        }
        if (random.nextBoolean()) {
            x.end(0);
        }
        return Due.tell(x, text.toString());
    }

    private static int wild(Random random) {
        int[] edges = {Integer.MIN_VALUE, Integer.MAX_VALUE, -1, 0, 1, 24, 25, 26, 32, 33, 64, 1600, 1601};
        return random.nextInt(3) == 0 ? edges[random.nextInt(edges.length)] : random.nextInt(16) - 1;
    }

    private static long answer(LastLetter x, Random random) {
        int a = wild(random);
        int b = wild(random);
        int c = wild(random);
        switch (random.nextInt(37)) {
            case 0: return x.feed(a, b, c, random.nextInt(), random.nextInt());
            case 1: return x.end(a);
            case 2: return x.tongue();
            case 3: return x.fault(a);
            case 4: return x.follow(a);
            case 5: return x.may();
            case 6: return x.say(a);
            case 7: return x.silence();
            case 8: return x.talk(a, b);
            case 9: return x.word(a, b);
            case 10: return x.all(random.nextBoolean());
            case 11: return x.longest();
            case 12: return x.worthy();
            case 13: return x.parted();
            case 14: return x.missed(a);
            case 15: return x.lies(a);
            case 16: return x.surplus(a);
            case 17: return x.mended();
            case 18: return x.join(a, b);
            case 19: return x.telling();
            case 20: return x.game(a);
            case 21: return x.wins(a);
            case 22: return x.deep(a);
            case 23: return x.score(a);
            case 24: return x.done();
            case 25: return x.again(a);
            case 26: return x.dead();
            case 27: return x.hear(a, b, c);
            case 28: return x.untell(a) ? 1 : 0;
            case 29: return x.later(a);
            case 30: return x.fits(a, b);
            case 31: return x.can(a, b, c);
            case 32: return x.seed(a);
            case 33: return x.image(a);
            case 34: return x.back(a);
            default: return x.about(a);
        }
    }
}
