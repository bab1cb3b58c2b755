import com.sun.management.ThreadMXBean;
import java.lang.management.ManagementFactory;

/** What a run of calls makes: all of it lives in one room, so calls must use their rows again. */
public final class RoomTest {
    private static final Due DUE = new Due("RoomTest");
    private static final ThreadMXBean BEAN = (ThreadMXBean) ManagementFactory.getThreadMXBean();

    public static void main(String[] args) {
        oneObject();
        bytesOf(1);
        int bytes = bytesOf(30);
        DUE.is("30 more rounds of all calls make next to nothing: " + bytes, bytes < 4096, true);
        DUE.end();
    }

    private static long made() {
        return BEAN.getThreadAllocatedBytes(Thread.currentThread().getId());
    }

    private static void oneObject() {
        new RegionRooms();
        long before = made();
        RegionRooms x = new RegionRooms();
        long bytes = made() - before;
        DUE.is("a new one is below 60000 bytes: " + bytes, bytes < 60000 && x.count(0) == 0, true);
    }

    private static int bytesOf(int rounds) {
        RegionRooms x = new RegionRooms();
        int[] text = words("fun b i n l;o is 1;j is sum i o;p is pair j l;c is less j n;r is when c b j n p else p;"
            + "fun main n;z is 0;y is 0;r is call b y n z;");
        int[] said = words("live and(not cells<3 or rooms>1)or filled b");
        all(x, text, said);
        long before = made();
        for (int i = 0; i < rounds; i++) {
            all(x, text, said);
        }
        return (int) (made() - before);
    }

    private static int[] words(String text) {
        int[] all = new int[(text.length() + 19) / 20 * 5];
        String padded = text + " ".repeat(20);
        for (int i = 0; i < all.length; i++) {
            all[i] = Due.word(padded, 4 * i);
        }
        return all;
    }

    private static void feed(RegionRooms x, int[] words) {
        for (int i = 0; i < words.length; i += 5) {
            x.feed(words[i], words[i + 1], words[i + 2], words[i + 3], words[i + 4]);
        }
    }

    private static void number(RegionRooms x) {
        x.feed(100 << 24, 0, 0, 0, 0);
        x.end(1);
    }

    private static void all(RegionRooms x, int[] text, int[] said) {
        feed(x, text);
        x.program();
        feed(x, said);
        x.sentence();
        for (int i = 0; i < 12; i++) {
            number(x);
            x.load();
            x.steps(400);
        }
        number(x);
        x.run();
        x.odds(20, 7);
        x.said(-1);
        x.reached();
        x.drag();
        x.image(0);
        x.image(1);
        x.undo();
        x.restore(0);
        x.restore(1);
        x.count(2);
        x.ran(7);
    }
}
