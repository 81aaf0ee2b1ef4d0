import java.math.BigInteger;
import java.util.ArrayList;
import java.util.HashMap;
import java.util.List;
import java.util.Map;
import java.util.regex.MatchResult;
import java.util.regex.Pattern;

/**
 * The document once more, by plain enumeration and with the whole library, for small TONGUES.
 * It shares no way of working with the class: what both answer alike is likely to be due.
 */
final class Model {
    static final int NONE = -1;

    final List<String> names = new ArrayList<>();
    final List<Integer> worth = new ArrayList<>();
    final List<Integer> times = new ArrayList<>();
    final List<Integer> errandWord = new ArrayList<>();
    final List<Integer> errandAfter = new ArrayList<>();
    final List<char[]> alikes = new ArrayList<>();
    String law = "one";
    boolean[][] alike = new boolean[26][26];

    List<Integer> row = new ArrayList<>();
    int[] said;
    int latest = NONE;
    int spoken;
    int earned;
    int done;
    int w = 1;

    /** A TONGUE that is known to be right, line by line. */
    Model(String text) {
        for (String line : text.split(";")) {
            String[] t = Pattern.compile("[a-z]+|[0-9]+").matcher(line).results().map(MatchResult::group).toArray(String[]::new);
            switch (t.length == 0 ? "" : t[0]) {
                case "word" -> {
                    names.add(t[1]);
                    worth.add(Integer.parseInt(t[3]));
                    times.add(t.length > 4 ? Integer.parseInt(t[5]) : 1);
                }
                case "law" -> law = t[1];
                case "alike" -> alikes.add(new char[] {t[1].charAt(0), t[2].charAt(0)});
                case "errand" -> {
                    errandWord.add(names.indexOf(t[1]));
                    errandAfter.add(t.length > 2 ? errandWord.indexOf(names.indexOf(t[3])) : NONE);
                }
                default -> { }
            }
        }
        closeAlike();
        said = new int[names.size()];
    }

    private void closeAlike() {
        for (int i = 0; i < 26; i++) {
            alike[i][i] = true;
        }
        for (char[] pair : alikes) {
            alike[pair[0] - 'a'][pair[1] - 'a'] = true;
            alike[pair[1] - 'a'][pair[0] - 'a'] = true;
        }
        for (int k = 0; k < 26; k++) {
            for (int i = 0; i < 26; i++) {
                for (int j = 0; j < 26; j++) {
                    alike[i][j] |= alike[i][k] && alike[k][j];
                }
            }
        }
    }

    boolean same(char a, char b) {
        return alike[a - 'a'][b - 'a'];
    }

    int n() {
        return names.size();
    }

    boolean goes(int u, int v) {
        String a = names.get(u);
        String b = names.get(v);
        boolean one = same(a.charAt(a.length() - 1), b.charAt(0));
        if (law.equals("one")) {
            return one;
        }
        if (law.equals("other")) {
            return !one;
        }
        return a.length() > 1 && b.length() > 1
                && same(a.charAt(a.length() - 2), b.charAt(0)) && same(a.charAt(a.length() - 1), b.charAt(1));
    }

    int follow(int u) {
        int bits = 0;
        for (int v = 0; v < n(); v++) {
            bits |= goes(u, v) ? 1 << v : 0;
        }
        return bits;
    }

    // ---- the TALK

    List<Integer> open() {
        List<Integer> words = new ArrayList<>();
        for (int v = 0; v < n(); v++) {
            if (said[v] < times.get(v) && (latest == NONE || goes(latest, v))) {
                words.add(v);
            }
        }
        return words;
    }

    int may() {
        return open().stream().mapToInt(v -> 1 << v).sum();
    }

    int say(int v) {
        if (!open().contains(v)) {
            return NONE;
        }
        said[v]++;
        latest = v;
        spoken++;
        earned += worth.get(v);
        done = doneAfter(done, v);
        return worth.get(v);
    }

    int doneAfter(int before, int v) {
        int e = errandWord.indexOf(v);
        if (e >= 0 && (errandAfter.get(e) == NONE || (before >> errandAfter.get(e) & 1) == 1)) {
            return before | 1 << e;
        }
        return before;
    }

    int silence() {
        int many = spoken;
        spoken = 0;
        latest = NONE;
        return many;
    }

    int talk(int words, int way) {
        int many = 0;
        while (many < words && !open().isEmpty()) {
            say(choice(way));
            many++;
        }
        return many;
    }

    private int choice(int way) {
        List<Integer> open = open();
        if (way == 3) {
            w = w * 1103515245 + 12345;
            return open.get((w >>> 16) % open.size());
        }
        int best = NONE;
        long bestRank = Long.MIN_VALUE;
        for (int v : open) {
            long rank = switch (way) {
                case 0 -> openAfter(v);
                case 1 -> -openAfter(v);
                case 2 -> worth.get(v);
                default -> times.get(v) - said[v];
            };
            if (rank > bestRank) {
                best = v;
                bestRank = rank;
            }
        }
        return best;
    }

    private int openAfter(int v) {
        int held = latest;
        said[v]++;
        latest = v;
        int many = open().size();
        said[v]--;
        latest = held;
        return many;
    }

    // ---- ROWS in which none stands twice: all of them, in their order

    interface Visitor {
        void row(List<Integer> row);
    }

    void rows(List<Integer> prefix, int without, Visitor visitor) {
        for (int v = 0; v < n(); v++) {
            if (v != without && !prefix.contains(v) && (prefix.isEmpty() || goes(prefix.get(prefix.size() - 1), v))) {
                prefix.add(v);
                visitor.row(prefix);
                rows(prefix, without, visitor);
                prefix.remove(prefix.size() - 1);
            }
        }
    }

    int all(boolean round) {
        row = new ArrayList<>();
        if (n() == 0) {
            return 1;
        }
        List<List<Integer>> found = new ArrayList<>();
        rows(new ArrayList<>(), NONE, r -> {
            if (r.size() == n() && found.isEmpty() && (!round || goes(r.get(n() - 1), r.get(0)))) {
                found.add(new ArrayList<>(r));
            }
        });
        if (!found.isEmpty()) {
            row = found.get(0);
        }
        return found.size();
    }

    private int most(int without, boolean byWorth) {
        row = new ArrayList<>();
        int[] best = {NONE};
        rows(new ArrayList<>(), without, r -> {
            int amount = byWorth ? r.stream().mapToInt(worth::get).sum() : r.size();
            if (amount > best[0]) {
                best[0] = amount;
                row = new ArrayList<>(r);
            }
        });
        return Math.max(0, best[0]);
    }

    int longest() {
        return most(NONE, false);
    }

    int worthy() {
        return most(NONE, true);
    }

    int missed(int v) {
        int loss = most(NONE, false) - most(v, false);
        row = new ArrayList<>();
        return loss;
    }

    int parted() {
        row = new ArrayList<>();
        int[] best = {n() == 0 ? 0 : Integer.MAX_VALUE};
        permute(new ArrayList<>(), best);
        return best[0];
    }

    private void permute(List<Integer> order, int[] best) {
        if (order.size() == n() && n() > 0) {
            int rows = 1;
            for (int i = 1; i < n(); i++) {
                rows += goes(order.get(i - 1), order.get(i)) ? 0 : 1;
            }
            if (rows < best[0]) {
                best[0] = rows;
                row = new ArrayList<>(order);
            }
            return;
        }
        for (int v = 0; v < n(); v++) {
            if (!order.contains(v)) {
                order.add(v);
                permute(order, best);
                order.remove(order.size() - 1);
            }
        }
    }

    // ---- letters

    int surplus(int letter) {
        int more = 0;
        for (String name : names) {
            more += alike[name.charAt(0) - 'a'][letter] ? 1 : 0;
            more -= alike[name.charAt(name.length() - 1) - 'a'][letter] ? 1 : 0;
        }
        return more;
    }

    /** By trying all WORDS of two of the letters that stand in the TONGUE, up to so many; NONE if more are needed. */
    int mended(int limit) {
        if (n() == 0) {
            return 0;
        }
        List<char[]> ends = new ArrayList<>();
        StringBuilder used = new StringBuilder();
        for (String name : names) {
            ends.add(new char[] {name.charAt(0), name.charAt(name.length() - 1)});
            for (char c : ends.get(ends.size() - 1)) {
                if (used.indexOf(String.valueOf(c)) < 0) {
                    used.append(c);
                }
            }
        }
        for (int more = 0; more <= limit; more++) {
            if (mends(ends, used.toString(), more)) {
                return more;
            }
        }
        return NONE;
    }

    private boolean mends(List<char[]> ends, String used, int more) {
        if (more == 0) {
            return walk(ends, new boolean[ends.size()], 0, '.');
        }
        for (char a : used.toCharArray()) {
            for (char b : used.toCharArray()) {
                ends.add(new char[] {a, b});
                boolean ok = mends(ends, used, more - 1);
                ends.remove(ends.size() - 1);
                if (ok) {
                    return true;
                }
            }
        }
        return false;
    }

    private boolean walk(List<char[]> ends, boolean[] gone, int many, char last) {
        if (many == ends.size()) {
            return true;
        }
        for (int i = 0; i < ends.size(); i++) {
            if (!gone[i] && (last == '.' || same(last, ends.get(i)[0]))) {
                gone[i] = true;
                boolean ok = walk(ends, gone, many + 1, ends.get(i)[1]);
                gone[i] = false;
                if (ok) {
                    return true;
                }
            }
        }
        return false;
    }

    // ---- fewest WORDS: by how far it is to the end from each state, then on by the least number

    int join(int a, int b) {
        row = new ArrayList<>();
        return shortest(1 << a, v -> v % 32 == b, false);
    }

    int telling() {
        row = new ArrayList<>();
        if (errandWord.isEmpty()) {
            return 0;
        }
        int full = (1 << errandWord.size()) - 1;
        return shortest((1 << n()) - 1, v -> v / 32 == full, true);
    }

    interface Goal {
        boolean at(int state);
    }

    private int shortest(int starts, Goal goal, boolean errands) {
        int[] far = new int[64 * 32];
        for (int s = 0; s < far.length; s++) {
            far[s] = s % 32 < n() && goal.at(s) ? 0 : 9999;
        }
        boolean changed = true;
        while (changed) {
            changed = false;
            for (int s = 0; s < far.length; s++) {
                for (int v = 0; s % 32 < n() && v < n(); v++) {
                    if (goes(s % 32, v)) {
                        int t = (errands ? doneAfter(s / 32, v) : 0) * 32 + v;
                        if (far[t] + 1 < far[s]) {
                            far[s] = far[t] + 1;
                            changed = true;
                        }
                    }
                }
            }
        }
        int here = NONE;
        for (int v = 0; v < n(); v++) {
            int t = (errands ? doneAfter(0, v) : 0) * 32 + v;
            if ((starts >> v & 1) == 1 && far[t] < 9999 && (here == NONE || far[t] < far[here])) {
                here = t;
            }
        }
        if (here == NONE) {
            return NONE;
        }
        row.add(here % 32);
        while (far[here] > 0) {
            for (int v = 0; v < n(); v++) {
                int t = (errands ? doneAfter(here / 32, v) : 0) * 32 + v;
                if (goes(here % 32, v) && far[t] == far[here] - 1) {
                    here = t;
                    break;
                }
            }
            row.add(here % 32);
        }
        return row.size();
    }

    // ---- games, by going through all of them

    private List<Integer> moves(int latestWord, int gone) {
        List<Integer> words = new ArrayList<>();
        for (int v = 0; v < n(); v++) {
            if ((gone >> v & 1) == 0 && goes(latestWord, v)) {
                words.add(v);
            }
        }
        return words;
    }

    boolean won(int v, int gone) {
        return moves(v, gone).stream().anyMatch(u -> !won(u, gone | 1 << u));
    }

    int game(int v) {
        return won(v, 1 << v) ? 1 : 0;
    }

    int wins(int v) {
        for (int u : moves(v, 1 << v)) {
            if (!won(u, 1 << v | 1 << u)) {
                return u;
            }
        }
        return NONE;
    }

    int deep(int v, int gone) {
        List<Integer> moves = moves(v, gone);
        if (moves.isEmpty()) {
            return 0;
        }
        if (won(v, gone)) {
            return 1 + moves.stream().filter(u -> !won(u, gone | 1 << u)).mapToInt(u -> deep(u, gone | 1 << u)).min().getAsInt();
        }
        return 1 + moves.stream().mapToInt(u -> deep(u, gone | 1 << u)).max().getAsInt();
    }

    int score(int v, int gone) {
        return moves(v, gone).stream().mapToInt(u -> worth.get(u) - score(u, gone | 1 << u)).max().orElse(0);
    }

    int again(int v) {
        // In so many turns: what isn't decided in 2 n turns never is.
        int turns = 2 * n() + 2;
        if (forced(v, turns, true, new HashMap<>())) {
            return 1;
        }
        return forced(v, turns, false, new HashMap<>()) ? 0 : 2;
    }

    /** In so many turns who is to say wins (toWin), or loses, whatever is said against it. */
    private boolean forced(int v, int turns, boolean toWin, Map<Integer, Boolean> known) {
        int key = (v * 100 + turns) * 2 + (toWin ? 1 : 0);
        if (!known.containsKey(key)) {
            boolean any = false;
            boolean every = true;
            for (int u = 0; u < n(); u++) {
                if (goes(v, u)) {
                    boolean next = turns > 0 && forced(u, turns - 1, !toWin, known);
                    any |= next;
                    every &= next;
                }
            }
            known.put(key, toWin ? any : every);
        }
        return known.get(key);
    }

    int dead() {
        int bits = 0;
        for (int v = 0; v < n(); v++) {
            bits |= follow(v) == 0 ? 1 << v : 0;
        }
        return bits;
    }

    // ---- the wall

    record Sound(int place, int what, int value, int told, int[] untold) {
    }

    final List<Sound> sounds = new ArrayList<>();

    private boolean fitsAt(int place, int v, int k) {
        for (Sound s : sounds) {
            boolean counts = s.told <= k && !(s.untold[0] >= 0 && s.untold[0] <= k);
            String name = names.get(v);
            if (counts && s.place == place) {
                boolean ok = switch (s.what) {
                    case 0 -> v == s.value;
                    case 1 -> same(name.charAt(0), (char) ('a' + s.value));
                    default -> same(name.charAt(name.length() - 1), (char) ('a' + s.value));
                };
                if (!ok) {
                    return false;
                }
            }
        }
        return true;
    }

    /** ROWS of the WORDS from a place on, behind a WORD; of those with a fixed WORD at a place, if it is not NONE. */
    private BigInteger count(int from, int n, int before, int k, int fixedPlace, int fixed) {
        BigInteger sum = BigInteger.ZERO;
        for (int v = 0; v < n(); v++) {
            boolean ok = (before == NONE || goes(before, v)) && fitsAt(from, v, k) && (from != fixedPlace || v == fixed);
            if (ok) {
                sum = sum.add(from == n - 1 ? BigInteger.ONE : count(from + 1, n, v, k, fixedPlace, fixed));
            }
        }
        return sum;
    }

    long fits(int n, int k) {
        return count(0, n, NONE, k, NONE, NONE).min(BigInteger.valueOf(1000000000000L)).longValue();
    }

    int can(int n, int place, int k) {
        int bits = 0;
        for (int v = 0; v < n(); v++) {
            bits |= count(0, n, NONE, k, place, v).signum() > 0 ? 1 << v : 0;
        }
        return bits;
    }
}
