import java.lang.management.ManagementFactory;

/** All calls of one run live in one room: 512 of the dearest calls must make few objects. */
public final class RoomTest {
    /** 600,000 objects and 7.3 million fields of 4 bytes are some 35 MB; a run of calls is to stay far below. */
    private static final long MOST_BYTES = 3_000_000;

    public static void main(String[] args) {
        com.sun.management.ThreadMXBean beans = (com.sun.management.ThreadMXBean) ManagementFactory.getThreadMXBean();
        long before = beans.getCurrentThreadAllocatedBytes();
        FourthFace x = crowd();
        for (int i = 0; i < 160; i++) {
            x.rows(3, 0);
            x.way(0, 6, -1);
            x.stranger(0, 0, 4);
        }
        long what = beans.getCurrentThreadAllocatedBytes() - before;
        for (int i = 0; i < 40; i++) {
            for (int k = 0; k < 8; k++) {
                x.feed(0x312B312B312B312BL >>> (k == 0 ? 8 : 0), k == 0 ? 7 : 8);
                x.image();
                x.restore();
            }
            x.text(0);
        }
        long texts = beans.getCurrentThreadAllocatedBytes() - before - what;
        System.out.println("RoomTest: " + what + " bytes for what would be, " + texts + " bytes for texts and images");
        if (what > MOST_BYTES || texts > MOST_BYTES) {
            System.exit(1);
        }
    }

    /** Eight people and four BLIND men on one bank: every row of crossings fits. */
    private static FourthFace crowd() {
        FourthFace x = Due.withPeople(8);
        for (int i = 0; i < 4; i++) {
            x.man(39, 0);
        }
        x.image();
        return x;
    }
}
