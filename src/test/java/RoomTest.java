import com.sun.management.ThreadMXBean;
import java.lang.management.ManagementFactory;

/** All calls of a run live in one room: what an object takes must not grow with the calls. */
public final class RoomTest {
    private static final long MOST_BYTES = 3_000_000;

    private RoomTest() {
    }

    public static void main(String[] args) {
        ThreadMXBean threads = (ThreadMXBean) ManagementFactory.getThreadMXBean();
        String[] texts = new String[15];
        for (int many = 0; many < texts.length; many++) {
            texts[many] = text(many);
        }
        run(texts);
        long before = threads.getThreadAllocatedBytes(Thread.currentThread().getId());
        run(texts);
        long bytes = threads.getThreadAllocatedBytes(Thread.currentThread().getId()) - before;
        System.out.println("bytes of a run: " + bytes);
        Due.isTrue("a run in " + bytes + " bytes", bytes < MOST_BYTES);
        Due.finish();
    }

    /** Tables grow with each TONGUE, then the dearest calls again and again. */
    private static void run(String[] texts) {
        LastLetter x = new LastLetter();
        for (String text : texts) {
            Due.tell(x, text);
            dearest(x);
        }
        for (int i = 0; i < 30; i++) {
            dearest(x);
        }
    }

    private static void dearest(LastLetter x) {
        x.all(false);
        x.all(true);
        x.longest();
        x.worthy();
        x.parted();
        x.missed(0);
        x.deep(0);
        x.score(0);
        x.telling();
        x.fits(12, 0);
        x.can(12, 6, 0);
        x.talk(100, 0);
    }

    private static String text(int many) {
        StringBuilder text = new StringBuilder("law other;");
        for (int i = 0; i < many; i++) {
            text.append("word ").append((char) ('a' + i)).append("z worth ").append(i).append(';');
        }
        return text.append(many > 0 ? "errand az;" : "").toString();
    }
}
