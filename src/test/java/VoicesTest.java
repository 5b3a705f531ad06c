/** Promises 27 and 28: voices and the trace of their bodies. */
public final class VoicesTest {
    private static final Due due = new Due("VoicesTest");

    public static void main(String[] args) {
        bodiesOfKinds();
        halves();
        wrapping();
        parted();
        wrongVoices();
        due.close();
    }

    /** Man 2 of a kind, m 7. */
    private static FourthFace manTwo(int kind) {
        FourthFace x = new FourthFace();
        x.man(0, 0);
        x.man(0, 0);
        x.man(10 * kind + 7, 0);
        return x;
    }

    private static void said(FourthFace x, String call, int voice, int number, int want, int... trace) {
        due.is(call, x.voice(2, voice, number), want);
        due.is(call + ": bodies", x.count(8), trace.length);
        for (int i = 0; i < trace.length; i++) {
            due.is(call + ": body " + i, x.body(i), trace[i]);
        }
        due.is(call + ": body behind", x.body(trace.length), Due.NONE);
    }

    private static void bodiesOfKinds() {
        int[] values = {
            11, 22, 15, 1,
            6, 12, 5, -3,
            11, -22, -29, 1,
            11, 22, 5, 1,
            18, 36, 31, -11,
            11, -24, -31, 1,
            3, 13, 6, 1,
        };
        int[][] traces = {
            {10}, {11, 10}, {12, 11, 10}, {13},
            {20, 10}, {11, 20, 10}, {12, 11, 20, 10}, {21, 13, 11, 20, 10},
            {10}, {30, 11, 10}, {12, 30, 11, 10}, {13},
            {10}, {11, 10}, {40, 12, 11, 10}, {13},
            {50, 20, 10}, {11, 50, 20, 10}, {51, 12, 11, 50, 20, 10}, {21, 13, 11, 50, 20, 10},
            {10}, {60, 30, 11, 10}, {12, 60, 30, 11, 10}, {13},
            {70}, {71, 11, 70}, {12, 71, 11, 70}, {13},
        };
        for (int kind = 0; kind < 7; kind++) {
            FourthFace x = manTwo(kind);
            for (int voice = 0; voice < 4; voice++) {
                int row = 4 * kind + voice;
                said(x, "kind " + kind + ", voice " + voice, voice, 9, values[row], traces[row]);
            }
        }
    }

    private static void halves() {
        // Cut toward 0: -5 by 2 is -2, and (-2 + 2) * 2 - 7.
        due.is("asks of a BLIND one", manTwo(3).voice(2, 2, -5), -7);
        due.is("parts, cut", manTwo(0).voice(2, 3, -9), -1);
        FourthFace x = new FourthFace();
        x.man(0, 0);
        x.man(0, 0);
        x.man(0, 0);
        x.man(1, 0);
        due.is("parts by -2", x.voice(3, 3, 9), -4);
        due.is("parts by -2 of -9", x.voice(3, 3, -9), 4);
    }

    private static void wrapping() {
        int most = Integer.MAX_VALUE;
        FourthFace x = manTwo(0);
        due.is("rows wrap", x.voice(2, 0, most), Integer.MIN_VALUE + 1);
        due.is("keeps wrap", x.voice(2, 1, most), 2);
        due.is("keeps of one more wrap", manTwo(5).voice(2, 1, most), -4);
        FourthFace y = new FourthFace();
        y.man(0, 0);
        y.man(0, 0);
        due.is("the least by -1", y.voice(1, 3, Integer.MIN_VALUE), Integer.MIN_VALUE);
        due.is("a value that looks like an error", y.voice(0, 0, Due.BEYOND), Due.BEYOND);
        due.is("is none", y.told(1), 0);
    }

    private static void parted() {
        FourthFace x = manTwo(0);
        x.setMan(2, 1, 2);
        said(x, "parted", 3, 9, Due.PARTED, 13);
        due.is("another voice isn't", x.voice(2, 1, 9), 22);
        x.setMan(2, 0, 4);
        // Nothing is begun behind what parted.
        said(x, "parted, asked by a LONG body", 3, 9, Due.PARTED, 21, 13);
        due.is("told(6)", x.told(6), 2);
        x.setMan(2, 1, 3);
        said(x, "not parted any more", 3, 9, -3, 21, 13, 11, 50, 20, 10);
    }

    private static void wrongVoices() {
        FourthFace x = manTwo(1);
        x.voice(2, 0, 1);
        due.is("voice 4", x.voice(2, 4, 0), Due.BEYOND);
        due.is("voice -1", x.voice(2, -1, 0), Due.BEYOND);
        due.is("no such man", x.voice(3, 0, 0), Due.BEYOND);
        due.is("no such man below", x.voice(-1, 0, 0), Due.BEYOND);
        due.is("the trace stays", x.count(8), 2);
        due.is("its first", x.body(0), 20);
        due.is("body(-1)", x.body(-1), Due.NONE);
        due.is("body(30)", x.body(30), Due.NONE);
        due.is("told(1)", x.told(1), 4);
        due.is("told(2)", x.told(2), 2);
    }
}
