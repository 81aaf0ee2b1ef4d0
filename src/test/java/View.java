import java.util.ArrayList;
import java.util.List;

/** All that can be seen of an object by calls that change nothing: a refused call must leave it as it was. */
final class View {
    private final List<String> calls = new ArrayList<>();
    private final List<Long> answers = new ArrayList<>();

    private View() {
    }

    static View of(LastLetter x) {
        View view = new View();
        for (int what = 0; what <= 9; what++) {
            view.add("about(" + what + ")", x.about(what));
        }
        view.add("fault(0)", x.fault(0));
        view.add("fault(1)", x.fault(1));
        view.add("may()", x.may());
        view.add("done()", x.done());
        view.add("dead()", x.dead());
        view.add("mended()", x.mended());
        view.addWords(x);
        view.addRow(x);
        view.addWall(x);
        return view;
    }

    private void addWords(LastLetter x) {
        for (int word = 0; word < x.about(0); word++) {
            add("follow(" + word + ")", x.follow(word));
            add("word(" + word + ", 0)", x.word(word, 0));
            add("word(" + word + ", 1)", x.word(word, 1));
        }
    }

    private void addRow(LastLetter x) {
        for (int i = 0; i <= x.about(8); i++) {
            add("lies(" + i + ")", x.lies(i));
        }
    }

    private void addWall(LastLetter x) {
        int now = x.about(5);
        for (int n = 1; n <= 12; n += 11) {
            add("fits(" + n + ", " + now + ")", x.fits(n, now));
            add("fits(" + n + ", " + (now - 1) + ")", x.fits(n, now - 1));
            add("can(" + n + ", 0, " + now + ")", x.can(n, 0, now));
        }
    }

    private void add(String call, long answer) {
        calls.add(call);
        answers.add(answer);
    }

    /** What a look at the object shows now must be what this look has shown. */
    void stays(String what, LastLetter x) {
        View now = of(x);
        Due.is(what + ": how much is seen", now.calls.size(), calls.size());
        for (int i = 0; i < Math.min(calls.size(), now.calls.size()); i++) {
            Due.is(what + ": " + calls.get(i) + " stays", now.answers.get(i), answers.get(i));
        }
    }
}
