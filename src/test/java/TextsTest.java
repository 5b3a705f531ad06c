/** Promises 10 to 12: the tape and the texts. */
public final class TextsTest {
    private static final Due due = new Due("TextsTest");

    public static void main(String[] args) {
        feeding();
        theTapeOnlyHoldsSixty();
        values();
        wrapping();
        names();
        fareNames();
        faults();
        depth();
        aTextIsReplaced();
        untelling();
        toldKeepsAndFareAreHeld();
        turnIsReadAheadOfTheCrossing();
        due.close();
    }

    private static void feeding() {
        FourthFace x = new FourthFace();
        due.is("feed(.., 0)", x.feed(0, 0), Due.BEYOND);
        due.is("feed(.., 9)", x.feed(0, 9), Due.BEYOND);
        due.is("feed(.., -1)", x.feed(0, -1), Due.BEYOND);
        x.man(60, 0);
        long word = '4' + ('+' << 8) + ('3' << 16);
        due.is("three bytes", x.feed(word, 3), 3);
        due.is("count(6)", x.count(6), 3);
        due.is("text", x.text(0), 1);
        due.is("the lowest byte is first", x.manIs(0, 4), 7);
        due.is("the tape is empty", x.count(6), 0);
        x.feed(0x352B31303030302BL, 8);
        due.is("eight bytes, the highest too: +00001+5", x.text(0), -10);
        x.feed(0x302B302B302B302BL, 8);
        due.is("all upper bytes left out", x.count(6), 8);
        x.text(0);
        x.feed(0xFFFFFFFFFFFFFF35L, 1);
        due.is("only the lowest byte of many", x.text(0), 1);
        due.is("five", x.manIs(0, 4), 5);
        x.feed('5' + 256L * '\0', 2);
        due.is("a byte 0 is a byte", x.text(0), -11);
    }

    private static void theTapeOnlyHoldsSixty() {
        FourthFace x = new FourthFace();
        for (int i = 1; i <= 7; i++) {
            due.is("feed " + i, x.feed(0, 8), 8 * i);
        }
        due.is("61 bytes", x.feed(0, 5), Due.FULL);
        due.is("none of them came", x.count(6), 56);
        due.is("a full tape and nine bytes", x.feed(0, 9), Due.BEYOND);
        due.is("60 bytes", x.feed(0, 4), 60);
        due.is("one more", x.feed(0, 1), Due.FULL);
        due.is("text(2)", x.text(2), Due.BEYOND);
        due.is("text(-1)", x.text(-1), Due.BEYOND);
        due.is("the tape stays", x.count(6), 60);
        due.is("text(0)", x.text(0), -10);
        due.is("the tape is empty at a fault, too", x.count(6), 0);
        due.is("a fault is no error", x.told(1), 3);
        for (int i = 0; i < 15; i++) {
            x.feed('1' + ('0' << 8) + ('0' << 16) + ((long) '+' << 24), 4);
        }
        due.is("60 bytes that end too early", x.text(0), -70);
    }

    /** The value of a text over 0 to 8, as keeps of a TOLD one with m 5, turn 0, three people. */
    private static int value(String text) {
        FourthFace x = Due.withPeople(3);
        x.man(65, 0);
        int answer = Due.text(x, 0, text);
        return answer == 1 ? x.manIs(0, 4) : answer;
    }

    private static void values() {
        Object[][] rows = {
            {"7", 7}, {"0007", 7}, {"9999", 8}, {"0", 0}, {"2+3", 5}, {"9-2-3", 4}, {"2*3", 6}, {"7/2", 3},
            {"7%4", 3}, {"7/0", 0}, {"7%0", 0}, {"8-7/0", 8}, {"2+3*2", 8}, {"(2+3)*1", 5}, {"9-4/2*3", 3},
            {"8/2/2", 2}, {"17%10%4", 3}, {"(0-7)/2+8", 5}, {"(0-7)%4+8", 5}, {"7/(0-2)+8", 5}, {"3<4", 1},
            {"4<4", 0}, {"4=4", 1}, {"3=4", 0}, {"4>3", 1}, {"4>4", 0}, {"1+1<3", 1}, {"3<1+1", 0},
            {"2|0", 1}, {"0|0", 0}, {"2&4", 1}, {"2&0", 0}, {"0|1&0", 0}, {"1|1&0", 1}, {"0&0|1", 1},
            {"1<2&3>2", 1}, {"1<2&3<2", 0}, {"!0", 1}, {"!7", 0}, {"!!7", 1}, {"!0+1", 2}, {"!1+1", 1},
            {"!(1+1)", 0}, {"2*!0", 2}, {"0-!0+8", 7}, {"(1<2)<3", 1}, {"5*(1<2)", 5}, {"(((3)))", 3},
            {"1|0=0", 1}, {"(1|0)*6", 6}, {"0-5", 0}, {"0-5|0", 1}, {"1&2|0", 1}, {"!0*!0*8", 8},
        };
        for (Object[] row : rows) {
            due.is((String) row[0], value((String) row[0]), (Integer) row[1]);
        }
    }

    private static void wrapping() {
        // 65536 * 32768 is 2 to the 31: the least int, negative.
        String least = "(256*256*128*256)";
        due.is("2^31 wraps below 0", value(least + "<0"), 1);
        due.is("2^32 is 0", value("256*256*256*256=0"), 1);
        due.is("the least by -1 is itself", value(least + "/(0-1)=" + least), 1);
        due.is("its rest is 0", value(least + "%(0-1)"), 0);
        due.is("the least less 1 is above 0", value(least + "-1>0"), 1);
    }

    private static void names() {
        due.is("m", value("m"), 5);
        due.is("p", value("p"), 3);
        due.is("t", value("t"), 0);
        due.is("k is no name of keeps", value("k"), -10);
        due.is("b is no name of keeps", value("1+b"), -12);
        due.is("m-p*2+t", value("m+p-t"), 8);
        due.is("names don't stand together", value("mp"), -11);
        due.is("nor behind a number", value("2m"), -11);
        due.is("M", value("M"), -10);
        FourthFace x = new FourthFace();
        x.man(60, 0);
        Due.text(x, 0, "t");
        x.alone(0);
        x.alone(0);
        x.alone(0);
        due.is("t is the turn", x.manIs(0, 4), 3);
    }

    private static void fareNames() {
        FourthFace x = Due.withPeople(3);
        x.man(65, 0);
        due.is("m*10+k*3+b", Due.text(x, 1, "m*10+k*3+b"), 1);
        due.is("fare, none known, bank 0", x.manIs(0, 5), 50);
        x.cross(0, 1);
        due.is("one known, bank 1", x.manIs(0, 5), 54);
        due.is("t is no name of a fare", Due.text(x, 1, "t"), -10);
        due.is("p is no name of a fare", Due.text(x, 1, "1-p"), -12);
        due.is("the fare stays", x.manIs(0, 5), 54);
    }

    private static void faults() {
        Object[][] rows = {
            {"", -10}, {"+", -10}, {"1+", -12}, {"1++", -12}, {"12345", -14}, {"1234 ", -14}, {" 1", -10},
            {"1<2<3", -13}, {"1<2=3", -13}, {"1=2>3", -13}, {"(1<2<3)", -14}, {"(1", -12}, {"(1))", -13},
            {"()", -11}, {")", -10}, {"1)", -11}, {"!", -11}, {"!)", -11}, {"1!", -11}, {"1(2)", -11},
            {"(1)2", -13}, {"(1)m", -13}, {"1|", -12}, {"1||2", -12}, {"1&&2", -12}, {"1<", -12}, {"1<<2", -12},
            {"|1", -10}, {"-1", -10}, {"1*-1", -12}, {"m?3|", -11}, {"1\u00e9", -11}, {"(1<2)&(3<4<5)", -20},
            {"1<2|3<4&5>6|", -22}, {"(12345)", -15}, {"((1)", -14}, {"1+(2*", -15}, {"!12345", -15},
        };
        for (Object[] row : rows) {
            due.is("fault of " + row[0], value((String) row[0]), (Integer) row[1]);
        }
    }

    private static void depth() {
        due.is("five !", value("!!!!!1"), 0);
        due.is("six !", value("!!!!!!1"), -15);
        due.is("five (", value("(((((7)))))"), 7);
        due.is("six (", value("((((((7))))))"), -15);
        due.is("!(!(!7", value("!(!(!7))"), 0);
        due.is("five mixed", value("(!(!(1)))"), 1);
        due.is("six mixed", value("(!(!(!1)))"), -15);
        due.is("five, closed, and five more", value("!!!!!1+!!!!!0"), 1);
        due.is("four and a ( behind a closed !", value("((((!1+(7)))))"), 7);
        due.is("a ! is open till its own end", value("!(((((1)))))"), -15);
        due.is("closed ( count no more", value("(((1)))+(((((2)))))"), 3);
    }

    private static void aTextIsReplaced() {
        FourthFace x = new FourthFace();
        x.man(64, 0);
        due.is("without a text", x.manIs(0, 4), 4);
        due.is("first", Due.text(x, 0, "6"), 1);
        due.is("keeps 6", x.manIs(0, 4), 6);
        due.is("a fault", Due.text(x, 0, "7+"), -12);
        due.is("the one ahead stays", x.manIs(0, 4), 6);
        due.is("second", Due.text(x, 0, "2"), 1);
        due.is("keeps 2", x.manIs(0, 4), 2);
        due.is("no text of the other use", x.manIs(0, 5), 4);
    }

    private static void untelling() {
        FourthFace x = new FourthFace();
        x.man(64, 0);
        Due.text(x, 1, "77");
        due.is("untell(0)", x.untell(0), 0);
        due.is("the other stays", x.manIs(0, 5), 77);
        due.is("untell(1)", x.untell(1), 1);
        due.is("it is gone", x.manIs(0, 5), 4);
        x.person(0);
        x.cross(0, 0);
        due.is("m and one known", x.manIs(0, 5), 5);
        due.is("untell(1) again", x.untell(1), 0);
        due.is("untell(2)", x.untell(2), Due.BEYOND);
        due.is("untell(-1)", x.untell(-1), Due.BEYOND);
    }

    private static void toldKeepsAndFareAreHeld() {
        FourthFace x = new FourthFace();
        x.man(69, 0);
        Due.text(x, 0, "m-99");
        Due.text(x, 1, "0-1");
        due.is("keeps 0 at least", x.manIs(0, 4), 0);
        due.is("fare 0 at least", x.manIs(0, 5), 0);
        Due.text(x, 0, "9");
        Due.text(x, 1, "100");
        due.is("keeps 8 at most", x.manIs(0, 4), 8);
        due.is("fare 99 at most", x.manIs(0, 5), 99);
        x.setMan(0, 0, 0);
        due.is("texts are for TOLD ones alone", x.manIs(0, 4), 3);
    }

    private static void turnIsReadAheadOfTheCrossing() {
        FourthFace x = Due.withPeople(1);
        x.man(60, 0);
        Due.text(x, 0, "t");
        x.cross(0, 0);
        due.is("at turn 0 he keeps none", x.manIs(0, 6), 0);
        x.cross(0, 0);
        due.is("at turn 1 he keeps one", x.manIs(0, 6), 1);
        // Known and bank, too, are those ahead of the crossing: one known, bank 0.
        Due.text(x, 1, "k*5+b");
        due.is("the fare ahead of the crossing", x.cross(0, 0), 5);
        due.is("and from the other bank", x.cross(0, 0), 6);
    }
}
