/** Promises 34 to 39: images, numbers that wait, counts, errors told. */
public final class ImagesAndTellingTest {
    private static final Due due = new Due("ImagesAndTellingTest");

    public static void main(String[] args) {
        anImageKeepsAll();
        whatNoImageKeeps();
        anImageStays();
        telling();
        checking();
        counts();
        toldErrors();
        due.close();
    }

    /** Two people, a LONG man who knows 0 and 1, a TOLD man with texts, a debt, a tape, two numbers that wait. */
    private static FourthFace busy() {
        FourthFace x = Due.withPeople(2);
        x.man(10, 0);
        x.man(64, 1);
        x.cross(0, 1);
        x.cross(0, 1);
        x.cross(0, 0);
        Due.text(x, 0, "5");
        Due.text(x, 1, "6");
        x.debt(0, 1, 7);
        x.debt(1, 0, 8);
        Due.feed(x, "m+2");
        x.tell(0);
        x.tell(1);
        x.seed(99);
        return x;
    }

    private static void busyStill(FourthFace x, String when) {
        due.is(when + ": people", x.count(0), 2);
        due.is(when + ": men", x.count(1), 2);
        due.is(when + ": turn", x.count(2), 3);
        due.is(when + ": debts", x.count(3), 2);
        due.is(when + ": holding", x.count(4), 2);
        due.is(when + ": coins", x.count(5), 40);
        due.is(when + ": tape", x.count(6), 3);
        due.is(when + ": waiting", x.count(7), 2);
        due.is(when + ": z", x.count(9), 99);
        due.is(when + ": book", x.count(10), 3);
        due.is(when + ": banks", x.manIs(0, 2) * 100 + x.personIs(0, 0) * 10 + x.personIs(1, 0), 110);
        due.is(when + ": kinds", x.manIs(0, 0) * 10 + x.manIs(1, 0), 16);
        due.is(when + ": m", x.manIs(0, 1) * 10 + x.manIs(1, 1), 4);
        due.is(when + ": minds", x.manIs(0, 7) * 100 + x.manIs(0, 8) * 10 + x.manIs(0, 6), 12);
        due.is(when + ": his coins", x.manIs(0, 3), 2);
        due.is(when + ": coins of 1", x.personIs(1, 1), 18);
        due.is(when + ": keeps by a text", x.manIs(1, 4), 5);
        due.is(when + ": fare by a text", x.manIs(1, 5), 6);
        due.is(when + ": the latest crossing", x.book(0), 0);
        due.is(when + ": the first crossing", x.book(2), 1);
        due.is(when + ": debt 0", x.debtIs(0, 0) * 100 + x.debtIs(0, 1) * 10 + x.debtIs(0, 2), 17);
        due.is(when + ": debt 1", x.debtIs(1, 0) * 100 + x.debtIs(1, 1) * 10 + x.debtIs(1, 2), 108);
    }

    private static void changeAll(FourthFace x) {
        x.setMan(0, 0, 2);
        x.setMan(0, 1, 3);
        x.setMan(1, 0, 0);
        x.pay(0);
        x.cross(0, 0);
        x.draws(30);
        x.forget(0);
        x.person(1);
        x.man(0, 0);
        x.check(0);
        x.tell(9);
        x.text(0);
        x.untell(1);
        x.setPerson(1, 1, 5);
    }

    private static void anImageKeepsAll() {
        FourthFace x = busy();
        busyStill(x, "at first");
        due.is("image", x.image(), 1);
        busyStill(x, "behind image");
        changeAll(x);
        due.is("restore", x.restore(), 3);
        busyStill(x, "restored");
        due.is("the tape's bytes", x.text(0), 1);
        due.is("m+2", x.manIs(1, 4), 6);
        due.is("what waits is 0 and 1", x.check(0), 0);
        changeAll(x);
        due.is("restore again", x.restore(), 3);
        busyStill(x, "restored again");
    }

    private static void whatNoImageKeeps() {
        FourthFace x = Due.withPeople(2);
        x.man(0, 0);
        x.voice(0, 0, 1);
        x.sheet(0, 8, 1);
        x.person(2);
        x.image();
        x.voice(0, 1, 1);
        x.sheet(0, 16, 2);
        x.sheet(1, 8, 2);
        x.put(1, 1, 1);
        x.person(2);
        x.cross(9, 9);
        due.is("restore", x.restore(), 0);
        due.is("the trace stays", x.count(8), 2);
        due.is("sheet 0 stays", x.put(0, 1, 1), 1);
        due.is("sheet 1 stays", x.crossings(1), 1);
        due.is("errors told stay", x.told(1), 3);
        due.is("how often stays", x.image(), 2);
    }

    private static void anImageStays() {
        FourthFace x = new FourthFace();
        due.is("none yet", x.restore(), Due.NONE);
        x.person(1);
        due.is("first", x.image(), 1);
        x.person(0);
        due.is("restored", x.restore(), 0);
        due.is("one", x.count(0), 1);
        x.person(0);
        x.man(0, 0);
        x.alone(0);
        due.is("second, in place of the first", x.image(), 2);
        x.person(0);
        due.is("restored to the second", x.restore(), 1);
        due.is("two", x.count(0), 2);
        due.is("restored, it is there still", x.restore(), 1);
        due.is("a new one after that has coins", x.person(0), 2);
        due.is("20", x.personIs(2, 1), 20);
        due.is("a new man", x.man(0, 0), 1);
        due.is("third", x.image(), 3);
        due.is("told(2)", x.told(2), 1);
    }

    private static void telling() {
        FourthFace x = new FourthFace();
        for (int i = 1; i <= 24; i++) {
            due.is("tell " + i, x.tell(-i), i);
        }
        due.is("a 25th", x.tell(0), Due.FULL);
        due.is("count(7)", x.count(7), 24);
        due.is("check(0) without men", x.check(0), Due.BEYOND);
        due.is("none wait then", x.count(7), 0);
        due.is("tell", x.tell(Integer.MIN_VALUE), 1);
        due.is("check(-1)", x.check(-1), Due.BEYOND);
        due.is("none wait then, too", x.count(7), 0);
    }

    private static void checkIs(FourthFace x, int want, int... numbers) {
        for (int number : numbers) {
            x.tell(number);
        }
        due.is("check of " + java.util.Arrays.toString(numbers), x.check(0), want);
        due.is("none wait", x.count(7), 0);
    }

    private static void checking() {
        FourthFace x = Due.withPeople(5);
        x.man(0, 0);
        for (int i = 1; i < 4; i++) {
            x.cross(0, i);
            x.cross(0, i);
        }
        checkIs(x, 0, 3, 2, 1);
        checkIs(x, 0, 2, 1, 3);
        checkIs(x, 1);
        checkIs(x, 2, 2);
        checkIs(x, 3, 1, 3);
        checkIs(x, 1, 0, 1, 2, 3);
        checkIs(x, 4, 1, 2, 3, 4);
        checkIs(x, 4, 1, 2, 3, 3);
        checkIs(x, 2, 1, 1, 2, 3);
        checkIs(x, 3, 1, 2, 1);
        checkIs(x, 3, 3, 2, -1);
        checkIs(x, 1, Integer.MAX_VALUE);
        checkIs(x, 1, 33);
        checkIs(x, 2, 1, 33, 1);
        x.forget(0);
        checkIs(x, 0);
        checkIs(x, 1, 1);
    }

    private static void counts() {
        FourthFace x = busy();
        x.setPerson(0, 1, 9999);
        due.is("coins of all", x.count(5), 10019);
        x.voice(0, 3, 1);
        due.is("bodies", x.count(8), 2);
        due.is("a LONG 0 of m 0 parted", x.told(6), 1);
        due.is("count(11)", x.count(11), Due.BEYOND);
        due.is("count(-1)", x.count(-1), Due.BEYOND);
    }

    private static void toldErrors() {
        FourthFace x = Due.withPeople(1);
        x.man(0, 0);
        x.person(2);
        x.book(0);
        x.restore();
        x.sheet(0, 8, -1);
        x.sheet(0, 8, -1);
        x.sheet(0, 8, -1);
        for (int i = 0; i < 25; i++) {
            x.tell(i);
        }
        x.as(0, 1);
        x.voice(0, 3, 1);
        int[] wants = {0, 1, 2, 3, 1, 1, 1};
        for (int k = 1; k <= 6; k++) {
            due.is("told(" + k + ")", x.told(k), wants[k]);
        }
        due.is("told(0)", x.told(0), Due.BEYOND);
        due.is("told(7)", x.told(7), Due.BEYOND);
        due.is("told(-1)", x.told(-1), Due.BEYOND);
        due.is("counted, too", x.told(1), 4);
    }
}
