import java.lang.management.ManagementFactory;
import java.util.Random;

/** What 512 calls on one object make: next to nothing beyond what the constructor made. */
public final class RoomTest {
    private static final com.sun.management.ThreadMXBean BEAN =
            (com.sun.management.ThreadMXBean) ManagementFactory.getThreadMXBean();
    private static final Due due = new Due("RoomTest");

    private static long made() {
        return BEAN.getThreadAllocatedBytes(Thread.currentThread().getId());
    }

    public static void main(String[] args) {
        StringBuilder text = new StringBuilder("sky 2 6;clouds 6;wind 1;");
        for (int k = 0; k < 10; k++) {
            text.append("wish by ").append(k % 6).append(" weight ").append(1 + k % 9).append(":of 0+of 1*(on ")
                    .append(k % 6).append("-1)>").append(k % 4).append(" or not [wet 1 2=1 and all<5];");
        }
        exercise(text.toString());
        long before = made();
        RainWishes x = new RainWishes();
        long one = made() - before;
        due.holds("a new object takes " + one + " bytes", one < 200000);
        before = made();
        dearCalls(x, text.toString());
        long calls = made() - before;
        due.holds("512 calls take " + calls + " bytes", calls < 200000);
        due.end();
    }

    /** Once beforehand, so that loading classes is not counted. */
    private static void exercise(String text) {
        dearCalls(new RainWishes(), text);
        new Random(1).nextInt();
    }

    private static void dearCalls(RainWishes x, String text) {
        Due.tell(x, text);
        x.tray(0, 0, 9);
        x.tray(1, 1, 12);
        x.tray(2, 2, 6);
        x.tray(3, 3, 30);
        for (int k = 0; k < 45; k++) {
            x.image(k % 3);
            x.nights();
            x.bestChance(k);
            x.gains(k % 6, k % 4, 0);
            x.readings(0, 3);
            x.wants(1, 1);
            x.holding(2, 6, 6);
            x.pour(3);
            x.season(k, 1);
            x.wish(0, 5);
            x.restore(k % 3);
        }
    }
}
