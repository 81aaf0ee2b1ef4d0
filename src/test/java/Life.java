import java.util.ArrayList;
import java.util.List;

/** A whole object by the document's words, on top of the plain Model: what each call answers and what stays behind it. */
final class Life {
    static final int NONE = -1;
    private static final int SPENT = -2;

    /** What a BOX keeps. */
    private record Kept(int latest, int spoken, int[] said, int earned, int done, int w) {
    }

    private final StringBuilder tape = new StringBuilder();
    private final Kept[] boxes = new Kept[3];
    private List<Integer> row = new ArrayList<>();
    private int fault;
    private int place = NONE;
    private int time;
    Model m = new Model("");

    int feed(int... numbers) {
        if (tape.length() > 1580) {
            return NONE;
        }
        for (int number : numbers) {
            for (int i = 3; i >= 0; i--) {
                tape.append((char) (number >> 8 * i & 255));
            }
        }
        return tape.length();
    }

    int end(int n) {
        if (n < 0 || n > tape.length()) {
            return NONE;
        }
        tape.setLength(n);
        return n;
    }

    int tongue() {
        OtherReader reader = new OtherReader(tape.toString());
        fault = reader.fault;
        place = reader.place;
        if (fault != 0) {
            return NONE;
        }
        int w = m.w;
        m = new Model(tape.toString());
        m.w = w;
        tape.setLength(0);
        row = new ArrayList<>();
        for (int box = 0; box < 3; box++) {
            boxes[box] = null;
        }
        return m.n();
    }

    int fault(int what) {
        return what == 0 ? fault : what == 1 ? place : NONE;
    }

    boolean has(int word) {
        return 0 <= word && word < m.n();
    }

    int follow(int word) {
        return has(word) ? m.follow(word) : NONE;
    }

    int talk(int words, int way) {
        return words < 0 || words > 100 || way < 0 || way > 4 ? NONE : m.talk(words, way);
    }

    int word(int word, int what) {
        if (!has(word) || what < 0 || what > 1) {
            return NONE;
        }
        return what == 0 ? m.said[word] : m.times.get(word) - m.said[word];
    }

    private boolean spent() {
        return m.n() > 14;
    }

    /** What the Model has laid there lies there; behind what it did not answer, nothing. */
    private int laid(int answer, boolean asked) {
        row = asked ? m.row : new ArrayList<>();
        return answer;
    }

    int all(boolean round) {
        return spent() ? laid(SPENT, false) : laid(m.all(round), true);
    }

    int longest() {
        return spent() ? laid(SPENT, false) : laid(m.longest(), true);
    }

    int worthy() {
        return spent() ? laid(SPENT, false) : laid(m.worthy(), true);
    }

    int parted() {
        return spent() ? laid(SPENT, false) : laid(m.parted(), true);
    }

    int missed(int word) {
        return laid(!has(word) ? NONE : spent() ? SPENT : m.missed(word), false);
    }

    int lies(int i) {
        return 0 <= i && i < row.size() ? row.get(i) : NONE;
    }

    int surplus(int letter) {
        return 0 <= letter && letter < 26 ? m.surplus(letter) : -1000;
    }

    int join(int a, int b) {
        return has(a) && has(b) ? laid(m.join(a, b), true) : laid(NONE, false);
    }

    int telling() {
        return laid(m.telling(), true);
    }

    int game(int word) {
        return !has(word) ? NONE : spent() ? SPENT : m.game(word);
    }

    int wins(int word) {
        return !has(word) ? NONE : spent() ? SPENT : m.wins(word);
    }

    int deep(int word) {
        return !has(word) ? NONE : spent() ? SPENT : m.deep(word, 1 << word);
    }

    int score(int word) {
        return !has(word) ? -10000 : spent() ? -20000 : m.score(word, 1 << word);
    }

    int again(int word) {
        return has(word) ? m.again(word) : NONE;
    }

    int hear(int at, int what, int value) {
        boolean can = 0 <= at && at < 12 && 0 <= value && (what == 0 ? value < m.n() : (what == 1 || what == 2) && value < 26);
        if (!can || m.sounds.size() == 30) {
            return NONE;
        }
        m.sounds.add(new Model.Sound(at, what, value, time, new int[] {NONE}));
        return m.sounds.size() - 1;
    }

    boolean untell(int sound) {
        if (sound < 0 || sound >= m.sounds.size() || m.sounds.get(sound).untold()[0] != NONE) {
            return false;
        }
        m.sounds.get(sound).untold()[0] = time;
        return true;
    }

    int later(int by) {
        if (by < 0 || by > 1000 || time > 100000 - by) {
            return NONE;
        }
        time += by;
        return time;
    }

    long fits(int n, int k) {
        return 1 <= n && n <= 12 ? m.fits(n, k) : NONE;
    }

    int can(int n, int at, int k) {
        return 1 <= n && n <= 12 && 0 <= at && at < n ? m.can(n, at, k) : NONE;
    }

    int seed(int w) {
        int before = m.w;
        m.w = w;
        return before;
    }

    int image(int box) {
        if (box < 0 || box > 2) {
            return NONE;
        }
        boxes[box] = new Kept(m.latest, m.spoken, m.said.clone(), m.earned, m.done, m.w);
        return m.spoken;
    }

    int back(int box) {
        if (box < 0 || box > 2 || boxes[box] == null) {
            return NONE;
        }
        Kept kept = boxes[box];
        m.latest = kept.latest;
        m.spoken = kept.spoken;
        m.said = kept.said.clone();
        m.earned = kept.earned;
        m.done = kept.done;
        m.w = kept.w;
        return m.spoken;
    }

    int about(int what) {
        return switch (what) {
            case 0 -> m.n();
            case 1 -> m.errandWord.size();
            case 2 -> m.spoken;
            case 3 -> m.latest;
            case 4 -> m.sounds.size();
            case 5 -> time;
            case 6 -> tape.length();
            case 7 -> m.w;
            case 8 -> row.size();
            case 9 -> m.earned;
            default -> NONE;
        };
    }
}
