import java.lang.management.ManagementFactory;

/** All calls of a run live in one room: 512 times the dearest calls must stay far below its 600,000 objects. */
public final class RoomTest {
    /** The room's 7.3 million fields and elements, if each took 8 bytes, is some 58 million; a run may take a part. */
    private static final long MOST_BYTES = 1_000_000;

    private RoomTest() {
    }

    public static void main(String[] args) {
        com.sun.management.ThreadMXBean threads =
            (com.sun.management.ThreadMXBean) ManagementFactory.getThreadMXBean();
        long me = Thread.currentThread().getId();
        for (int round = 0; round < 2; round++) {
            long before = threads.getThreadAllocatedBytes(me);
            long sum = fullRun(round);
            long bytes = threads.getThreadAllocatedBytes(me) - before;
            Check.that("some answers " + sum, sum != 0);
            // the first round loads classes, too
            Check.that("room: " + bytes + " bytes", round == 0 || bytes < MOST_BYTES);
        }
        Check.end();
    }

    private static long fullRun(int round) {
        MeteorsAreProposals x = new MeteorsAreProposals();
        String text = "m49004009;m49154009;m49082002;m69073003;m39071001;m19063000;m09063000;m09071004;";
        Check.text(x, 0, text);
        x.row(1, 2, 100);
        x.keep(2, 1, 4, 9);
        long sum = 0;
        for (int i = 0; i < 512; i++) {
            switch (i % 10) {
                case 0: sum += x.augusts(20, i, 0); break;
                case 1: sum += x.roofs(); break;
                case 2: sum += x.wed(1); break;
                case 3: sum += x.august(0); break;
                case 4: sum += x.laws(1, 3, 0); break;
                case 5: sum += x.row(1, 2, 100); break;
                case 6: sum += x.image() + x.restore(); break;
                case 7: sum += x.toss(2); break;
                case 8: sum += x.sky(0); break;
                default: sum += x.rings(round) + x.judge(1, 0) + x.clouds(0, 0, 20, 1);
            }
        }
        return sum;
    }
}
