/** Counts the answers that are not the ones due, and tells them. */
final class Due {
    static final int BEYOND = -1000000001;
    static final int NONE = -1000000002;
    static final int STATE = -1000000003;
    static final int FULL = -1000000004;
    static final int KIND = -1000000005;
    static final int PARTED = -1000000006;

    private final String test;
    private int asked;
    private int wrong;

    Due(String test) {
        this.test = test;
    }

    void is(String call, long got, long want) {
        asked++;
        if (got != want) {
            wrong++;
            System.out.println(test + ": " + call + " answered " + got + ", due is " + want);
        }
    }

    void close() {
        System.out.println(test + ": " + (asked - wrong) + " of " + asked + " as due");
        if (wrong != 0 || asked == 0) {
            System.exit(1);
        }
    }

    /** A new object with so many people, all on bank 0. */
    static FourthFace withPeople(int people) {
        FourthFace x = new FourthFace();
        for (int i = 0; i < people; i++) {
            x.person(0);
        }
        return x;
    }

    /** Feeds a text to the tape, byte by byte. */
    static void feed(FourthFace x, String text) {
        for (int i = 0; i < text.length(); i++) {
            x.feed(text.charAt(i), 1);
        }
    }

    static int text(FourthFace x, int use, String text) {
        feed(x, text);
        return x.text(use);
    }
}
