import com.sun.management.ThreadMXBean;
import java.lang.management.ManagementFactory;

/** What an object and its 512 calls make stays far below the room that all calls of a run share. */
public final class RoomTest {
    private static final long ROOM_OF_OBJECT = 60_000;
    private static final long ROOM_OF_TEXT = 6_000;

    private static final ThreadMXBean THREADS = (ThreadMXBean) ManagementFactory.getThreadMXBean();

    public static void main(String[] args) {
        if (!THREADS.isThreadAllocatedMemorySupported()) {
            System.out.println("this machine does not count what is made");
            return;
        }
        String rule = "rule 11" + "*1".repeat(395) + "=1;";
        String six = sixGreatOnes();
        // once ahead, so that loading classes is not counted
        measure(rule, six, false);
        measure(rule, six, true);
        Check.end();
    }

    private static void measure(String rule, String six, boolean counts) {
        int[] ruleNumbers = numbers(rule);
        int[] sixNumbers = numbers(six);
        long start = made();
        DesignDesk desk = new DesignDesk();
        long object = made() - start;
        start = made();
        tell(desk, ruleNumbers, rule.length());
        long text = made() - start;
        tell(desk, sixNumbers, six.length());
        start = made();
        for (int i = 0; i < 20; i++) {
            desk.paint(i % 6, i % 10, i % 7, i % 4);
            desk.groups();
            desk.nearest(i % 6);
            desk.day(i % 6, i);
            desk.prior(i % 6, 0);
            for (int what = 0; what < 13; what++) {
                desk.of(i % 6, what);
            }
            desk.undo();
        }
        long asked = made() - start;
        if (counts) {
            System.out.println(object + " bytes an object, " + text + " its longest text, " + asked + " 380 others");
            Check.due("bytes of an object", object <= ROOM_OF_OBJECT ? 1 : 0, 1);
            Check.due("bytes of the longest text", text <= ROOM_OF_TEXT ? 1 : 0, 1);
            Check.due("bytes of all other calls", asked <= ROOM_OF_TEXT ? 1 : 0, 1);
        }
    }

    private static long made() {
        return THREADS.getThreadAllocatedBytes(Thread.currentThread().getId());
    }

    private static int[] numbers(String text) {
        int[] numbers = new int[(text.length() + 19) / 20 * 5];
        for (int i = 0; i < numbers.length; i++) {
            numbers[i] = Check.four(text, 4 * i);
        }
        return numbers;
    }

    private static void tell(DesignDesk desk, int[] n, int length) {
        for (int i = 0; i + 4 < n.length; i += 5) {
            desk.feed(n[i], n[i + 1], n[i + 2], n[i + 3], n[i + 4]);
        }
        desk.text(length);
    }

    private static String sixGreatOnes() {
        StringBuilder text = new StringBuilder();
        for (int i = 0; i < 6; i++) {
            text.append("design").append(i).append(Texts.spot(i, 9 - i, 'o', '#', 10, 10)).append(';');
        }
        return text.append("rule prior>alike;").toString();
    }
}
