import java.util.Random;

/** Whole lives of objects, up to their 512th call, with several TONGUES each: every answer as the plain Life has it. */
public final class LifeTest {
    private static final int LIVES = 1500;
    private static final int CALLS = 512;

    private final Random random;
    private final LastLetter x = new LastLetter();
    private final Life life = new Life();
    private final String at;
    private int calls;

    private LifeTest(int number) {
        random = new Random(number);
        at = "life " + number + ", ";
    }

    public static void main(String[] args) {
        for (int number = 0; number < LIVES; number++) {
            new LifeTest(number).live();
        }
        Due.finish();
    }

    private void live() {
        while (calls < CALLS) {
            int kind = random.nextInt(24);
            if (kind == 0) {
                tell();
            } else if (kind < 8) {
                ofTalk();
            } else if (kind < 12) {
                ofRows();
            } else if (kind < 15) {
                ofGames();
            } else if (kind < 20) {
                ofWall();
            } else {
                ofState();
            }
        }
    }

    private void same(String call, long got, long want) {
        calls++;
        Due.is(at + "call " + calls + ": " + call, got, want);
    }

    /** Mostly a number that can be, now and then one that can't. */
    private int number(int most) {
        int[] wrong = {-1, most + 1, Integer.MIN_VALUE, Integer.MAX_VALUE, most + 32, -32};
        return random.nextInt(8) == 0 ? wrong[random.nextInt(wrong.length)] : random.nextInt(most + 1);
    }

    private int aWord() {
        return number(Math.max(0, life.m.n() - 1));
    }

    /** Small TONGUES for the Model's sake, or such that are SPENT; right ones, and ones with FAULTS. */
    private void tell() {
        if (random.nextBoolean()) {
            same("end(0)", x.end(0), life.end(0));
        }
        int kind = random.nextInt(8);
        String text = kind == 0 ? Due.loops(15 + random.nextInt(11)) : kind < 3 ? FaultTest.text(random) : OracleTest.text(random, 6);
        boolean isHard = new OtherReader(text).fault == 0 && isBetween(new Model(text).n());
        for (int i = 0; i < text.length() && !isHard; i += 20) {
            int[] f = new int[5];
            for (int j = 0; j < 20; j++) {
                f[j / 4] = f[j / 4] << 8 | (i + j < text.length() ? text.charAt(i + j) : random.nextInt(256));
            }
            same("feed", x.feed(f[0], f[1], f[2], f[3], f[4]), life.feed(f));
        }
        int length = life.about(6) - (20 - text.length() % 20) % 20;
        same("end(" + length + ")", x.end(length), life.end(length));
        if (!isHard) {
            same("tongue()", x.tongue(), life.tongue());
        }
        same("fault(0)", x.fault(0), life.fault(0));
        same("fault(1)", x.fault(1), life.fault(1));
    }

    /** The Model goes through all orders, which takes too long for these. */
    private static boolean isBetween(int words) {
        return words > 7 && words < 15;
    }

    private void ofTalk() {
        int a = aWord();
        int b = number(4);
        int words = random.nextInt(3) > 0 ? random.nextInt(5) : number(100);
        switch (random.nextInt(9)) {
            case 0, 1 -> same("say(" + a + ")", x.say(a), life.m.say(a));
            case 2, 3 -> same("talk(" + words + ", " + b + ")", x.talk(words, b), life.talk(words, b));
            case 4 -> same("silence()", x.silence(), life.m.silence());
            case 5 -> same("word(" + a + ", 0)", x.word(a, 0), life.word(a, 0));
            case 6 -> same("word(" + a + ", " + b + ")", x.word(a, b), life.word(a, b));
            case 7 -> same("done()", x.done(), life.m.done);
            default -> same("may()", x.may(), life.m.may());
        }
    }

    private void ofRows() {
        int a = aWord();
        int b = aWord();
        boolean round = random.nextBoolean();
        switch (random.nextInt(9)) {
            case 0 -> same("all(" + round + ")", x.all(round), life.all(round));
            case 1 -> same("longest()", x.longest(), life.longest());
            case 2 -> same("worthy()", x.worthy(), life.worthy());
            case 3 -> same("parted()", x.parted(), life.parted());
            case 4 -> same("missed(" + a + ")", x.missed(a), life.missed(a));
            case 5 -> same("join(" + a + ", " + b + ")", x.join(a, b), life.join(a, b));
            case 6 -> same("telling()", x.telling(), life.telling());
            case 7 -> same("follow(" + a + ")", x.follow(a), life.follow(a));
            default -> same("dead()", x.dead(), life.m.dead());
        }
        same("about(8)", x.about(8), life.about(8));
        for (int i = random.nextInt(3); i > 0; i--) {
            int place = number(Math.max(0, life.about(8) - 1));
            same("lies(" + place + ")", x.lies(place), life.lies(place));
        }
    }

    private void ofGames() {
        int a = aWord();
        int letter = number(25);
        switch (random.nextInt(7)) {
            case 0 -> same("game(" + a + ")", x.game(a), life.game(a));
            case 1 -> same("wins(" + a + ")", x.wins(a), life.wins(a));
            case 2 -> same("deep(" + a + ")", x.deep(a), life.deep(a));
            case 3 -> same("score(" + a + ")", x.score(a), life.score(a));
            case 4 -> same("again(" + a + ")", x.again(a), life.again(a));
            case 5 -> same("surplus(" + letter + ")", x.surplus(letter), life.surplus(letter));
            default -> mended();
        }
    }

    /** The Model tries one WORD more at most; what takes more is only known to take two at least. */
    private void mended() {
        int want = life.m.mended(1);
        int got = x.mended();
        same("mended()", want == Life.NONE ? Math.min(got, 2) : got, want == Life.NONE ? 2 : want);
    }

    private void ofWall() {
        int n = 1 + random.nextInt(life.m.n() > 7 ? 2 : 4);
        int askedN = random.nextInt(10) == 0 ? number(12) : n;
        int where = random.nextInt(3) > 0 ? random.nextInt(n) : number(11);
        int what = number(2);
        int value = what == 0 ? aWord() : number(random.nextBoolean() ? 4 : 25);
        int k = life.about(5) + random.nextInt(5) - 3;
        int by = random.nextInt(3) > 0 ? random.nextInt(3) : number(1000);
        int sound = number(Math.max(0, life.about(4) - 1));
        switch (random.nextInt(8)) {
            case 0, 1 -> same("hear(" + where + ", " + what + ", " + value + ")", x.hear(where, what, value), life.hear(where, what, value));
            case 2 -> same("untell(" + sound + ")", x.untell(sound) ? 1 : 0, life.untell(sound) ? 1 : 0);
            case 3 -> same("later(" + by + ")", x.later(by), life.later(by));
            case 4, 5 -> fits(askedN > 4 && askedN < 13 ? n : askedN, k);
            default -> can(askedN > 4 && askedN < 13 ? n : askedN, where, k);
        }
    }

    private void fits(int n, int k) {
        same("fits(" + n + ", " + k + ")", x.fits(n, k), life.fits(n, k));
    }

    private void can(int n, int place, int k) {
        same("can(" + n + ", " + place + ", " + k + ")", x.can(n, place, k), life.can(n, place, k));
    }

    private void ofState() {
        int box = number(2);
        int what = number(9);
        int w = random.nextInt();
        switch (random.nextInt(6)) {
            case 0 -> same("image(" + box + ")", x.image(box), life.image(box));
            case 1 -> same("back(" + box + ")", x.back(box), life.back(box));
            case 2 -> same("seed(" + w + ")", x.seed(w), life.seed(w));
            case 3 -> same("fault(" + box + ")", x.fault(box), life.fault(box));
            default -> same("about(" + what + ")", x.about(what), life.about(what));
        }
    }
}
