import java.util.ArrayList;
import java.util.List;
import java.util.Random;

/** Many small TONGUES: the class must answer as the plain model does. */
public final class OracleTest {
    private static final int TONGUES = 3000;

    private OracleTest() {
    }

    public static void main(String[] args) {
        Random random = new Random(20261118);
        for (int i = 0; i < TONGUES; i++) {
            String text = text(random, 6);
            compare(text, random);
        }
        for (int i = 0; i < 40; i++) {
            compareBig(text(random, 24));
        }
        Due.finish();
    }

    static String text(Random random, int most) {
        int letters = 2 + random.nextInt(3);
        List<String> names = new ArrayList<>();
        int many = random.nextInt(most + 1);
        for (int i = 0; i < many; i++) {
            String name = name(random, letters);
            if (!names.contains(name)) {
                names.add(name);
            }
        }
        List<String> lines = new ArrayList<>();
        for (String name : names) {
            String times = random.nextBoolean() ? "" : " times " + (1 + random.nextInt(4));
            lines.add("word " + name + " worth " + random.nextInt(random.nextBoolean() ? 4 : 100) + times);
        }
        List<String> errands = new ArrayList<>();
        for (int i = 0; i < 4 && !names.isEmpty(); i++) {
            String name = names.get(random.nextInt(names.size()));
            if (!errands.contains(name) && random.nextBoolean()) {
                boolean free = errands.isEmpty() || random.nextInt(3) == 0;
                lines.add("errand " + name + (free ? "" : " after " + errands.get(random.nextInt(errands.size()))));
                errands.add(name);
            }
        }
        if (random.nextInt(3) > 0) {
            String[] laws = {"one", "two", "other"};
            lines.add(random.nextInt(lines.size() + 1), "law " + laws[random.nextInt(3)]);
        }
        for (int i = random.nextInt(3); i > 0; i--) {
            char a = (char) ('a' + random.nextInt(letters + 1));
            char b = (char) ('a' + random.nextInt(letters + 1));
            if (a != b) {
                lines.add(random.nextInt(lines.size() + 1), "alike " + a + " " + b);
            }
        }
        return String.join(random.nextBoolean() ? ";" : " ;\n", lines) + (lines.isEmpty() ? "" : ";");
    }

    private static String name(Random random, int letters) {
        StringBuilder name = new StringBuilder();
        for (int i = 1 + random.nextInt(4); i > 0; i--) {
            name.append((char) ('a' + random.nextInt(letters)));
        }
        return name.toString();
    }

    private static void rows(String at, LastLetter x, Model m) {
        Due.lies(at, x, m.row.stream().mapToInt(Integer::intValue).toArray());
    }

    private static void compare(String text, Random random) {
        LastLetter x = Due.told(text);
        Model m = new Model(text);
        String at = text.replace('\n', ' ') + ": ";
        Due.is(at + "words", x.about(0), m.n());
        Due.is(at + "errands", x.about(1), m.errandWord.size());
        compareOrders(at, x, m);
        int tried = m.n() > 5 ? 1 : 2;
        int mended = m.mended(tried);
        if (mended != LastLetter.NONE) {
            Due.is(at + "mended", x.mended(), mended);
        } else {
            Due.isTrue(at + "mended by more", x.mended() > tried);
        }
        for (int letter = 0; letter < 6; letter++) {
            Due.is(at + "surplus(" + letter + ")", x.surplus(letter), m.surplus(letter));
        }
        compareWords(at, x, m);
        compareTalk(at, x, m, random);
        compareWall(at, x, m, random);
    }

    private static void compareOrders(String at, LastLetter x, Model m) {
        Due.is(at + "all", x.all(false), m.all(false));
        rows(at + "all", x, m);
        Due.is(at + "round", x.all(true), m.all(true));
        rows(at + "round", x, m);
        Due.is(at + "longest", x.longest(), m.longest());
        rows(at + "longest", x, m);
        Due.is(at + "worthy", x.worthy(), m.worthy());
        rows(at + "worthy", x, m);
        Due.is(at + "parted", x.parted(), m.parted());
        rows(at + "parted", x, m);
        Due.is(at + "telling", x.telling(), m.telling());
        rows(at + "telling", x, m);
        Due.is(at + "dead", x.dead(), m.dead());
    }

    private static void compareWords(String at, LastLetter x, Model m) {
        for (int v = 0; v < m.n(); v++) {
            Due.is(at + "follow(" + v + ")", x.follow(v), m.follow(v));
            Due.is(at + "missed(" + v + ")", x.missed(v), m.missed(v));
            Due.is(at + "score(" + v + ")", x.score(v), m.score(v, 1 << v));
            Due.is(at + "deep(" + v + ")", x.deep(v), m.deep(v, 1 << v));
            Due.is(at + "game(" + v + ")", x.game(v), m.game(v));
            Due.is(at + "wins(" + v + ")", x.wins(v), m.wins(v));
            compareFar(at, x, m, v);
        }
    }

    private static void compareFar(String at, LastLetter x, Model m, int v) {
        Due.is(at + "again(" + v + ")", x.again(v), m.again(v));
        for (int u = 0; u < m.n(); u++) {
            Due.is(at + "join(" + v + ", " + u + ")", x.join(v, u), m.join(v, u));
            rows(at + "join(" + v + ", " + u + ")", x, m);
        }
    }

    private static void compareTalk(String at, LastLetter x, Model m, Random random) {
        for (int i = 0; i < 20; i++) {
            int kind = random.nextInt(4);
            if (kind == 0) {
                Due.is(at + "silence", x.silence(), m.silence());
            } else if (kind == 1) {
                int words = random.nextInt(4);
                int way = random.nextInt(5);
                Due.is(at + "talk(" + words + ", " + way + ")", x.talk(words, way), m.talk(words, way));
            } else {
                int v = random.nextInt(m.n() + 1);
                Due.is(at + "say(" + v + ")", x.say(v), m.say(v));
            }
            Due.is(at + "may", x.may(), m.may());
            Due.is(at + "done", x.done(), m.done);
            Due.is(at + "spoken", x.about(2), m.spoken);
            Due.is(at + "latest", x.about(3), m.latest);
            Due.is(at + "w", x.about(7), m.w);
            Due.is(at + "worth", x.about(9), m.earned);
            for (int v = 0; v < m.n(); v++) {
                Due.is(at + "word(" + v + ", 0)", x.word(v, 0), m.said[v]);
                Due.is(at + "word(" + v + ", 1)", x.word(v, 1), m.times.get(v) - m.said[v]);
            }
        }
    }

    private static void compareWall(String at, LastLetter x, Model m, Random random) {
        for (int i = 0; i < 8 && m.n() > 0; i++) {
            if (random.nextInt(4) == 0 && !m.sounds.isEmpty()) {
                int sound = random.nextInt(m.sounds.size());
                boolean was = m.sounds.get(sound).untold()[0] >= 0;
                Due.is(at + "untell(" + sound + ")", x.untell(sound) ? 1 : 0, was ? 0 : 1);
                if (!was) {
                    m.sounds.get(sound).untold()[0] = x.about(5);
                }
            } else {
                int place = random.nextInt(5);
                int what = random.nextInt(3);
                int value = random.nextInt(what == 0 ? m.n() : 5);
                Due.is(at + "hear", x.hear(place, what, value), m.sounds.size());
                m.sounds.add(new Model.Sound(place, what, value, x.about(5), new int[] {LastLetter.NONE}));
            }
            x.later(random.nextInt(2));
            int n = 1 + random.nextInt(4);
            int k = random.nextInt(x.about(5) + 3) - 1;
            Due.is(at + "fits(" + n + ", " + k + ")", x.fits(n, k), m.fits(n, k));
            int place = random.nextInt(n);
            Due.is(at + "can(" + n + ", " + place + ", " + k + ")", x.can(n, place, k), m.can(n, place, k));
        }
    }

    /** What is not SPENT with many WORDS. */
    private static void compareBig(String text) {
        LastLetter x = Due.told(text);
        Model m = new Model(text);
        String at = text.replace('\n', ' ') + ": ";
        Due.is(at + "telling", x.telling(), m.telling());
        rows(at + "telling", x, m);
        for (int v = 0; v < m.n(); v++) {
            Due.is(at + "follow(" + v + ")", x.follow(v), m.follow(v));
            compareFar(at, x, m, v);
        }
    }
}
