import java.util.ArrayList;
import java.util.HashMap;
import java.util.List;
import java.util.Map;
import java.util.function.IntSupplier;

/** ROWS without a WORD twice, and games, for up to 14 WORDS: by recursion over what is left and the latest WORD. */
final class Memo {
    private static final int FAR = 1000;

    private final Model m;
    private final int every;
    private final List<Map<Integer, Integer>> known = new ArrayList<>();
    List<Integer> row = new ArrayList<>();

    Memo(Model m) {
        this.m = m;
        every = (1 << m.n()) - 1;
        for (int i = 0; i < 7; i++) {
            known.add(new HashMap<>());
        }
    }

    /** What one recursion answers for a set of WORDS left and the latest one, worked out once. */
    private int once(int which, int rest, int latest, IntSupplier way) {
        int key = rest << 5 | latest;
        Integer held = known.get(which).get(key);
        if (held == null) {
            held = way.getAsInt();
            known.get(which).put(key, held);
        }
        return held;
    }

    private List<Integer> within(int rest) {
        List<Integer> words = new ArrayList<>();
        for (int v = 0; v < m.n(); v++) {
            if ((rest >> v & 1) == 1) {
                words.add(v);
            }
        }
        return words;
    }

    private List<Integer> moves(int rest, int latest) {
        List<Integer> words = within(rest);
        words.removeIf(v -> !m.goes(latest, v));
        return words;
    }

    // ---- ROWS

    /** The most that a ROW behind this WORD can still bring. */
    private int more(int rest, int latest, boolean byWorth) {
        return once(byWorth ? 0 : 1, rest, latest, () ->
                moves(rest, latest).stream().mapToInt(v -> amount(v, byWorth) + more(rest & ~(1 << v), v, byWorth)).max().orElse(0));
    }

    private int amount(int v, boolean byWorth) {
        return byWorth ? m.worth.get(v) : 1;
    }

    int most(int among, boolean byWorth) {
        row = new ArrayList<>();
        int most = within(among).stream().mapToInt(v -> amount(v, byWorth) + more(among & ~(1 << v), v, byWorth)).max().orElse(0);
        int rest = among;
        int wanted = most;
        List<Integer> open = within(among);
        while (!open.isEmpty() && (row.isEmpty() || wanted > 0)) {
            int left = rest;
            int need = wanted;
            int v = open.stream().filter(u -> amount(u, byWorth) + more(left & ~(1 << u), u, byWorth) == need).findFirst().orElseThrow();
            row.add(v);
            wanted -= amount(v, byWorth);
            rest &= ~(1 << v);
            open = moves(rest, v);
        }
        return most;
    }

    int missed(int v) {
        int loss = most(every, false) - most(every & ~(1 << v), false);
        row = new ArrayList<>();
        return loss;
    }

    /** How many ROWS more are begun by the rest, at least. */
    private int begun(int rest, int latest) {
        return once(2, rest, latest, () ->
                within(rest).stream().mapToInt(v -> (m.goes(latest, v) ? 0 : 1) + begun(rest & ~(1 << v), v)).min().orElse(0));
    }

    int parted() {
        row = new ArrayList<>();
        int fewest = within(every).stream().mapToInt(v -> 1 + begun(every & ~(1 << v), v)).min().orElse(0);
        int rest = every;
        int wanted = fewest;
        int latest = Model.NONE;
        while (rest != 0) {
            for (int v : within(rest)) {
                int cost = latest != Model.NONE && m.goes(latest, v) ? 0 : 1;
                if (cost + begun(rest & ~(1 << v), v) == wanted) {
                    row.add(v);
                    rest &= ~(1 << v);
                    wanted -= cost;
                    latest = v;
                    break;
                }
            }
        }
        return fewest;
    }

    int all() {
        int ways = parted();
        if (ways > 1) {
            row = new ArrayList<>();
        }
        return ways > 1 ? 0 : 1;
    }

    /** 0 if the rest can be said so that WORD 0 may FOLLOW at its end. */
    private int toRound(int rest, int latest) {
        return once(3, rest, latest, () -> rest == 0 ? (m.goes(latest, 0) ? 0 : FAR)
                : moves(rest, latest).stream().mapToInt(v -> toRound(rest & ~(1 << v), v)).min().orElse(FAR));
    }

    int round() {
        row = new ArrayList<>();
        int rest = every & ~1;
        int latest = 0;
        if (every == 0 || toRound(rest, 0) != 0) {
            return every == 0 ? 1 : 0;
        }
        row.add(0);
        while (rest != 0) {
            int left = rest;
            latest = moves(rest, latest).stream().filter(v -> toRound(left & ~(1 << v), v) == 0).findFirst().orElseThrow();
            row.add(latest);
            rest &= ~(1 << latest);
        }
        return 1;
    }

    // ---- games

    private int won(int rest, int latest) {
        return once(4, rest, latest, () -> moves(rest, latest).stream().anyMatch(v -> won(rest & ~(1 << v), v) == 0) ? 1 : 0);
    }

    private int lasting(int rest, int latest) {
        return once(5, rest, latest, () -> {
            List<Integer> moves = moves(rest, latest);
            if (won(rest, latest) == 0) {
                return moves.stream().mapToInt(v -> 1 + lasting(rest & ~(1 << v), v)).max().orElse(0);
            }
            return moves.stream().filter(v -> won(rest & ~(1 << v), v) == 0).mapToInt(v -> 1 + lasting(rest & ~(1 << v), v)).min().orElseThrow();
        });
    }

    private int gain(int rest, int latest) {
        return once(6, rest, latest, () ->
                moves(rest, latest).stream().mapToInt(v -> m.worth.get(v) - gain(rest & ~(1 << v), v)).max().orElse(0));
    }

    int game(int v) {
        return won(every & ~(1 << v), v);
    }

    int wins(int v) {
        int rest = every & ~(1 << v);
        return moves(rest, v).stream().filter(u -> won(rest & ~(1 << u), u) == 0).findFirst().orElse(Model.NONE);
    }

    int deep(int v) {
        return lasting(every & ~(1 << v), v);
    }

    int score(int v) {
        return gain(every & ~(1 << v), v);
    }

    int every() {
        return every;
    }
}
