import java.util.List;

/**
 * Each refused call of each promise, each on a new object in the midst of its work: the ERROR that is due is told once,
 * that alone, and all else is as on a twin that wasn't asked.
 */
public final class RefusalsTest {
    private static final Due due = new Due("RefusalsTest");
    private static final int MOST = Integer.MAX_VALUE;
    private static final int LEAST = Integer.MIN_VALUE;

    private interface Made {
        FourthFace anew();
    }

    private interface Call {
        int on(FourthFace x);
    }

    public static void main(String[] args) {
        people();
        men();
        menToldAnew();
        peopleToldAnew();
        texts();
        crossings();
        crossingsAtTheLastTurn();
        debts();
        paying();
        meetings();
        strangers();
        ways();
        memories();
        rows();
        voices();
        sheets();
        puts();
        moves();
        rowsOnSheets();
        minds();
        images();
        telling();
        whatIsTold();
        due.close();
    }

    /** What the call may change is done to both: calls that answer no ERROR. */
    private static void refused(Made made, String call, int error, Call which, Call onBoth) {
        FourthFace x = made.anew();
        FourthFace twin = made.anew();
        due.is(call, which.on(x), error);
        int[] told = Scene.told(x);
        int[] ahead = Scene.told(twin);
        for (int k = 1; k <= 6; k++) {
            due.is(call + ": told(" + k + ")", told[k] - ahead[k], -1000000000 - k == error ? 1 : 0);
        }
        onBoth.on(x);
        onBoth.on(twin);
        List<Integer> seen = Scene.seen(x);
        List<Integer> twins = Scene.seen(twin);
        due.is(call + ": changed " + seen + " from " + twins, seen.equals(twins) ? 0 : 1, 0);
    }

    private static void refused(Made made, String call, int error, Call which) {
        refused(made, call, error, which, x -> 0);
    }

    private static void busy(String call, int error, Call which) {
        refused(Scene::busy, call, error, which);
    }

    private static void full(String call, int error, Call which) {
        refused(Scene::full, call, error, which);
    }

    private static void anew(String call, int error, Call which) {
        refused(FourthFace::new, call, error, which);
    }

    private interface CallWith {
        int on(FourthFace x, int number);
    }

    /** A call with each of some numbers in one of its places. */
    private static void busyWith(String call, int error, CallWith which, int... numbers) {
        for (int number : numbers) {
            busy(call.replace("#", "" + number), error, x -> which.on(x, number));
        }
    }

    private static void people() {
        busyWith("person(#)", Due.BEYOND, (x, v) -> x.person(v), -1, 2, MOST, LEAST);
        full("a ninth", Due.FULL, x -> x.person(0));
        full("a ninth on bank 1", Due.FULL, x -> x.person(1));
        full("a ninth on bank 2: BEYOND is asked first", Due.BEYOND, x -> x.person(2));
        full("a ninth on bank -1", Due.BEYOND, x -> x.person(-1));
        busyWith("personIs(#, 0)", Due.BEYOND, (x, v) -> x.personIs(v, 0), -1, 3, MOST, LEAST);
        busyWith("personIs(2, #)", Due.BEYOND, (x, v) -> x.personIs(2, v), -1, 4, MOST, LEAST);
        full("personIs(8, 0)", Due.BEYOND, x -> x.personIs(8, 0));
        anew("personIs(0, 0) without people", Due.BEYOND, x -> x.personIs(0, 0));
    }

    private static void men() {
        busyWith("man(#, 0)", Due.BEYOND, (x, v) -> x.man(v, 0), -1, 70, MOST, LEAST);
        busyWith("man(0, #)", Due.BEYOND, (x, v) -> x.man(0, v), -1, 2, MOST, LEAST);
        full("a fifth", Due.FULL, x -> x.man(0, 0));
        full("a fifth, 69 on bank 1", Due.FULL, x -> x.man(69, 1));
        full("a fifth of km 70: BEYOND is asked first", Due.BEYOND, x -> x.man(70, 0));
        full("a fifth of km -1", Due.BEYOND, x -> x.man(-1, 0));
        full("a fifth on bank 2", Due.BEYOND, x -> x.man(0, 2));
        busyWith("manIs(#, 0)", Due.BEYOND, (x, v) -> x.manIs(v, 0), -1, 3, MOST, LEAST);
        busyWith("manIs(2, #)", Due.BEYOND, (x, v) -> x.manIs(2, v), -1, 15, MOST, LEAST);
        full("manIs(4, 0)", Due.BEYOND, x -> x.manIs(4, 0));
        anew("manIs(0, 0) without men", Due.BEYOND, x -> x.manIs(0, 0));
        busyWith("as(#, 0)", Due.BEYOND, (x, v) -> x.as(v, 0), -1, 3, MOST, LEAST);
        busyWith("as(0, #)", Due.BEYOND, (x, v) -> x.as(0, v), -1, 7, MOST, LEAST);
        busyWith("as(0, #), a LONG one", Due.KIND, (x, v) -> x.as(0, v), 2, 3, 4, 5, 6);
        busyWith("as(1, #), a TOLD one", Due.KIND, (x, v) -> x.as(1, v), 1, 2, 3, 4, 5);
        busyWith("as(2, #), a MAN", Due.KIND, (x, v) -> x.as(2, v), 1, 2, 3, 4, 5, 6);
        busyWith("forget(#)", Due.BEYOND, (x, v) -> x.forget(v), -1, 3, MOST, LEAST);
    }

    private static void menToldAnew() {
        for (int what = 0; what < 3; what++) {
            int of = what;
            busyWith("setMan(#, " + of + ", 0)", Due.BEYOND, (x, v) -> x.setMan(v, of, 0), -1, 3, MOST, LEAST);
        }
        busyWith("setMan(0, #, 0)", Due.BEYOND, (x, v) -> x.setMan(0, v, 0), -1, 3, MOST, LEAST);
        busyWith("kind #", Due.BEYOND, (x, v) -> x.setMan(0, 0, v), -1, 7, MOST, LEAST);
        busyWith("m #", Due.BEYOND, (x, v) -> x.setMan(0, 1, v), -1, 10, MOST, LEAST);
        busyWith("bank #", Due.BEYOND, (x, v) -> x.setMan(0, 2, v), -1, 2, MOST, LEAST);
    }

    private static void peopleToldAnew() {
        busyWith("setPerson(#, 0, 0)", Due.BEYOND, (x, v) -> x.setPerson(v, 0, 0), -1, 3, MOST, LEAST);
        busyWith("setPerson(#, 1, 0)", Due.BEYOND, (x, v) -> x.setPerson(v, 1, 0), -1, 3, MOST, LEAST);
        busyWith("setPerson(0, #, 0)", Due.BEYOND, (x, v) -> x.setPerson(0, v, 0), -1, 2, MOST, LEAST);
        busyWith("one's bank #", Due.BEYOND, (x, v) -> x.setPerson(0, 0, v), -1, 2, MOST, LEAST);
        busyWith("one's coins #", Due.BEYOND, (x, v) -> x.setPerson(0, 1, v), -1, 10000, MOST, LEAST);
    }

    private static void texts() {
        busyWith("feed('1', #)", Due.BEYOND, (x, v) -> x.feed('1', v), -1, 0, 9, MOST, LEAST);
        full("a 61st byte", Due.FULL, x -> x.feed('1', 1));
        full("eight more", Due.FULL, x -> x.feed('1', 8));
        full("nine more: BEYOND is asked first", Due.BEYOND, x -> x.feed('1', 9));
        full("none more", Due.BEYOND, x -> x.feed('1', 0));
        busyWith("text(#): the tape stays", Due.BEYOND, (x, v) -> x.text(v), -1, 2, MOST, LEAST);
        full("text(2) of a full tape", Due.BEYOND, x -> x.text(2));
        anew("text(2) of an empty tape", Due.BEYOND, x -> x.text(2));
        busyWith("untell(#)", Due.BEYOND, (x, v) -> x.untell(v), -1, 2, MOST, LEAST);
    }

    private static void crossings() {
        busyWith("cross(#, 0)", Due.BEYOND, (x, v) -> x.cross(v, 0), -1, 3, MOST, LEAST);
        busyWith("cross(0, #)", Due.BEYOND, (x, v) -> x.cross(0, v), -1, 3, MOST, LEAST);
        busy("0 is over, 1 is not", Due.STATE, x -> x.cross(0, 1));
        busy("2 is here, 0 is not", Due.STATE, x -> x.cross(2, 0));
        busyWith("alone(#)", Due.BEYOND, (x, v) -> x.alone(v), -1, 3, MOST, LEAST);
        busyWith("draws(#)", Due.BEYOND, (x, v) -> x.draws(v), -1, 0, 61, MOST, LEAST);
        anew("draws without men", Due.STATE, x -> x.draws(1));
        anew("61 draws without men: BEYOND is asked first", Due.BEYOND, x -> x.draws(61));
        refused(() -> Due.withPeople(2), "people, but no men", Due.STATE, x -> x.draws(60));
        busyWith("book(#), of 4", Due.NONE, (x, v) -> x.book(v), -1, 4, MOST, LEAST);
        full("book(24)", Due.NONE, x -> x.book(24));
        anew("book(0) of none", Due.NONE, x -> x.book(0));
    }

    private static void late(int turn, String call, int error, Call which) {
        refused(() -> Scene.late(turn), call, error, which);
    }

    private static void crossingsAtTheLastTurn() {
        late(9999, "cross at 9999", Due.STATE, x -> x.cross(0, 0));
        late(9999, "cross at 9999, on two banks", Due.STATE, x -> x.cross(0, 1));
        late(9999, "cross at 9999, no such man: BEYOND is asked first", Due.BEYOND, x -> x.cross(1, 0));
        late(9999, "cross at 9999, no such one", Due.BEYOND, x -> x.cross(0, 2));
        late(9999, "alone at 9999", Due.STATE, x -> x.alone(0));
        late(9999, "alone at 9999, no such man: BEYOND is asked first", Due.BEYOND, x -> x.alone(1));
        late(9999, "one draw at 9999", Due.STATE, x -> x.draws(1));
        late(9999, "no draw at 9999: BEYOND is asked first", Due.BEYOND, x -> x.draws(0));
        late(9998, "two draws at 9998", Due.STATE, x -> x.draws(2));
        late(9940, "60 draws at 9940", Due.STATE, x -> x.draws(60));
    }

    private static void debts() {
        busyWith("debt(#, 1, 5)", Due.BEYOND, (x, v) -> x.debt(v, 1, 5), -1, 3, MOST, LEAST);
        busyWith("debt(1, #, 5)", Due.BEYOND, (x, v) -> x.debt(1, v, 5), -1, 3, MOST, LEAST);
        busyWith("debt(#, #, 5) to oneself", Due.BEYOND, (x, v) -> x.debt(v, v, 5), 0, 1, 2);
        busyWith("debt(0, 1, #)", Due.BEYOND, (x, v) -> x.debt(0, 1, v), -1, 0, 1000, MOST, LEAST);
        full("a ninth", Due.FULL, x -> x.debt(0, 1, 5));
        full("a ninth to oneself: BEYOND is asked first", Due.BEYOND, x -> x.debt(1, 1, 5));
        full("a ninth of 8", Due.BEYOND, x -> x.debt(8, 1, 5));
        full("a ninth to 8", Due.BEYOND, x -> x.debt(1, 8, 5));
        full("a ninth of no coins", Due.BEYOND, x -> x.debt(0, 1, 0));
        full("a ninth of 1000 coins", Due.BEYOND, x -> x.debt(0, 1, 1000));
        busyWith("debtIs(#, 0)", Due.BEYOND, (x, v) -> x.debtIs(v, 0), -1, 3, MOST, LEAST);
        busyWith("debtIs(2, #)", Due.BEYOND, (x, v) -> x.debtIs(2, v), -1, 4, MOST, LEAST);
        full("debtIs(8, 0)", Due.BEYOND, x -> x.debtIs(8, 0));
        anew("debtIs(0, 0) without debts", Due.BEYOND, x -> x.debtIs(0, 0));
    }

    private static void paying() {
        busyWith("pay(#)", Due.BEYOND, (x, v) -> x.pay(v), -1, 3, MOST, LEAST);
        busy("a debt that doesn't hold", Due.STATE, x -> x.pay(1));
        busy("one who has no coins", Due.STATE, x -> x.pay(2));
        full("pay(8)", Due.BEYOND, x -> x.pay(8));
    }

    private static void meetings() {
        busyWith("loses(#, 0)", Due.BEYOND, (x, v) -> x.loses(v, 0), -1, 3, MOST, LEAST);
        busyWith("loses(0, #)", Due.BEYOND, (x, v) -> x.loses(0, v), -1, 3, MOST, LEAST);
        busy("loses on two banks", Due.STATE, x -> x.loses(0, 1));
        busyWith("hearsay(#, 0)", Due.BEYOND, (x, v) -> x.hearsay(v, 0), -1, 3, MOST, LEAST);
        busyWith("hearsay(0, #)", Due.BEYOND, (x, v) -> x.hearsay(0, v), -1, 3, MOST, LEAST);
        busy("hearsay on two banks", Due.STATE, x -> x.hearsay(0, 1));
    }

    private static void strangers() {
        busyWith("stranger(#, 0, 0)", Due.BEYOND, (x, v) -> x.stranger(v, 0, 0), -1, 3, MOST, LEAST);
        busyWith("stranger(0, #, 0)", Due.BEYOND, (x, v) -> x.stranger(0, v, 0), -1, 3, MOST, LEAST);
        busyWith("stranger(0, 0, #)", Due.BEYOND, (x, v) -> x.stranger(0, 0, v), -1, 5, MOST, LEAST);
        busyWith("a known one by #", Due.NONE, (x, v) -> x.stranger(0, 0, v), 0, 1, 2, 3, 4);
        anew("nobody to nobody by 5", Due.BEYOND, x -> x.stranger(0, 0, 5));
    }

    private static void ways() {
        busyWith("way(#, 0, -1)", Due.BEYOND, (x, v) -> x.way(v, 0, -1), -1, 3, MOST, LEAST);
        busyWith("way(0, #, -1)", Due.BEYOND, (x, v) -> x.way(0, v, -1), -1, 7, MOST, LEAST);
        busyWith("way(0, 2, #)", Due.BEYOND, (x, v) -> x.way(0, 2, v), -2, 2, 3, MOST, LEAST);
        busyWith("way(0, 6, #)", Due.BEYOND, (x, v) -> x.way(0, 6, v), -2, 6, MOST, LEAST);
        busyWith("way(0, 0, #)", Due.BEYOND, (x, v) -> x.way(0, 0, v), -2, 0, 1);
        Made noMen = () -> Due.withPeople(1);
        for (int n = 1; n <= 6; n++) {
            int by = n;
            refused(noMen, "no men, by " + n, Due.NONE, x -> x.way(0, by, -1));
            refused(noMen, "no men, the last by " + n, Due.NONE, x -> x.way(0, by, by - 1));
            refused(noMen, "no men, i " + n + ": BEYOND is asked first", Due.BEYOND, x -> x.way(0, by, by));
            refused(noMen, "no men, i -2", Due.BEYOND, x -> x.way(0, by, -2));
        }
        refused(noMen, "no men, by 7", Due.BEYOND, x -> x.way(0, 7, -1));
    }

    private static void memories() {
        busyWith("memory(#, 0)", Due.BEYOND, (x, v) -> x.memory(v, 0), -1, 3, MOST, LEAST);
        busyWith("memory(0, #)", Due.BEYOND, (x, v) -> x.memory(0, v), -1, 3, MOST, LEAST);
        busy("one whom he never carried", Due.NONE, x -> x.memory(0, 2));
        busy("a man who never carried any", Due.NONE, x -> x.memory(2, 0));
    }

    private static void rows() {
        busyWith("rows(#, 0)", Due.BEYOND, (x, v) -> x.rows(v, 0), -1, 4, MOST, LEAST);
        busyWith("rows(0, #)", Due.BEYOND, (x, v) -> x.rows(0, v), -1, 2, MOST, LEAST);
        for (int what = 0; what < 2; what++) {
            int of = what;
            anew("no image, by 0", Due.NONE, x -> x.rows(0, of));
            anew("no image, by 3", Due.NONE, x -> x.rows(3, of));
            anew("no image, by 4: BEYOND is asked first", Due.BEYOND, x -> x.rows(4, of));
            anew("no image, by -1", Due.BEYOND, x -> x.rows(-1, of));
        }
        anew("no image, what 2", Due.BEYOND, x -> x.rows(0, 2));
        anew("no image, what -1", Due.BEYOND, x -> x.rows(0, -1));
    }

    private static void voices() {
        busyWith("voice(#, 0, 1)", Due.BEYOND, (x, v) -> x.voice(v, 0, 1), -1, 3, MOST, LEAST);
        busyWith("voice(0, #, 1)", Due.BEYOND, (x, v) -> x.voice(0, v, 1), -1, 4, MOST, LEAST);
        // Its trace is the one of the latest voice; all else stays.
        Made parting = () -> {
            FourthFace x = Scene.busy();
            x.setMan(1, 1, 1);
            return x;
        };
        refused(parting, "parted", Due.PARTED, x -> x.voice(1, 3, 1), x -> x.voice(0, 0, 1));
        refused(parting, "no such man parts: BEYOND is asked", Due.BEYOND, x -> x.voice(3, 3, 1));
        busyWith("body(#), of 4", Due.NONE, (x, v) -> x.body(v), -1, 4, 29, 30, MOST, LEAST);
        anew("body(0) of none", Due.NONE, x -> x.body(0));
    }

    private static void sheets() {
        busyWith("sheet(#, 8, 1)", Due.BEYOND, (x, v) -> x.sheet(v, 8, 1), -1, 4, MOST, LEAST);
        busyWith("sheet(#, 0, 1)", Due.BEYOND, (x, v) -> x.sheet(v, 0, 1), -1, 4);
        busyWith("sheet(0, #, 1)", Due.BEYOND, (x, v) -> x.sheet(0, v, 1), -8, -1, 1, 7, 9, 15, 17, 24, 31, 33, 64, MOST,
            LEAST);
        for (int bits = 8; bits <= 32; bits *= 2) {
            int of = bits;
            busyWith("sheet(0, " + of + ", #)", Due.STATE, (x, v) -> x.sheet(0, of, v), -1, LEAST);
            busyWith("sheet(0, " + of + ", #)", Due.BEYOND, (x, v) -> x.sheet(0, of, v), 25, MOST);
            busyWith("a missing one of # numbers", Due.STATE, (x, v) -> x.sheet(3, of, v), -1, LEAST);
            busyWith("a missing one of # numbers", Due.BEYOND, (x, v) -> x.sheet(3, of, v), 25, MOST);
        }
        busy("no such sheet of -1 numbers: BEYOND is asked first", Due.BEYOND, x -> x.sheet(4, 8, -1));
        busy("7 bits of -1 numbers", Due.BEYOND, x -> x.sheet(0, 7, -1));
        busy("7 bits of 25 numbers", Due.BEYOND, x -> x.sheet(0, 7, 25));
    }

    private static void puts() {
        busyWith("put(#, 0, 1)", Due.BEYOND, (x, v) -> x.put(v, 0, 1), -1, 4, MOST, LEAST);
        busyWith("put(3, #, 1), missing, is asked first", Due.NONE, (x, v) -> x.put(3, v, 1), -1, 0, 24, MOST, LEAST);
        busyWith("put(4, #, 1)", Due.BEYOND, (x, v) -> x.put(4, v, 1), -1, 24);
        for (int sheet = 0; sheet < 3; sheet++) {
            int of = sheet;
            busyWith("put(" + of + ", #, 1), of " + (of + 2), Due.BEYOND, (x, v) -> x.put(of, v, 1), -1, of + 2, 24, MOST,
                LEAST);
        }
    }

    /** Sheets 0 and 1 of 8 bits, of 3 and 5 numbers; 2 of 16 bits; 3 missing. */
    private static FourthFace sheeted() {
        FourthFace x = Scene.busy();
        x.sheet(0, 8, 3);
        x.sheet(1, 8, 5);
        x.sheet(2, 16, 5);
        for (int i = 0; i < 3; i++) {
            x.put(0, i, 7);
        }
        x.put(1, 0, x.manIs(0, 7));
        x.put(1, 1, x.manIs(0, 8));
        return x;
    }

    private static void unmoved(int error, int... numbers) {
        String call = "move(" + numbers[0] + ", " + numbers[1] + ", " + numbers[2] + ", " + numbers[3] + ", " + numbers[4] + ")";
        refused(RefusalsTest::sheeted, call, error, x -> x.move(numbers[0], numbers[1], numbers[2], numbers[3], numbers[4]));
    }

    private static void moves() {
        int[] none = {-1, 4, MOST, LEAST};
        for (int sheet : none) {
            unmoved(Due.BEYOND, sheet, 0, 1, 0, 1);
            unmoved(Due.BEYOND, 0, 0, sheet, 0, 1);
            // BEYOND of a sheet is asked ahead of NONE of another.
            unmoved(Due.BEYOND, sheet, 0, 3, 0, 1);
            unmoved(Due.BEYOND, 3, 0, sheet, 0, 1);
        }
        int[][] wrong = {{0, 0, -1}, {-1, 0, 1}, {0, -1, 1}, {0, 0, 99}, {0, 0, LEAST}, {LEAST, 0, 1}, {0, LEAST, 1}};
        for (int[] one : wrong) {
            unmoved(Due.NONE, 3, one[0], 0, one[1], one[2]);
            unmoved(Due.NONE, 0, one[0], 3, one[1], one[2]);
            unmoved(Due.NONE, 3, one[0], 3, one[1], one[2]);
            unmoved(Due.KIND, 0, one[0], 2, one[1], one[2]);
            unmoved(Due.KIND, 2, one[0], 0, one[1], one[2]);
            unmoved(Due.BEYOND, 0, one[0], 1, one[1], one[2]);
            unmoved(Due.BEYOND, 0, one[0], 0, one[1], one[2]);
        }
        unmoved(Due.BEYOND, 0, 0, 1, 0, 4);
        unmoved(Due.BEYOND, 0, 1, 1, 0, 3);
        unmoved(Due.BEYOND, 0, 3, 1, 0, 1);
        unmoved(Due.BEYOND, 0, 4, 1, 0, 0);
        unmoved(Due.BEYOND, 1, 0, 0, 0, 4);
        unmoved(Due.BEYOND, 1, 0, 0, 1, 3);
        unmoved(Due.BEYOND, 1, 0, 0, 3, 1);
        unmoved(Due.BEYOND, 1, 0, 0, 4, 0);
        unmoved(Due.BEYOND, 0, MOST, 1, 0, MOST);
        unmoved(Due.BEYOND, 0, 0, 1, MOST, MOST);
        unmoved(Due.BEYOND, 0, MOST, 1, 0, 1);
        unmoved(Due.BEYOND, 0, 0, 1, MOST, 1);
        unmoved(Due.BEYOND, 0, LEAST, 1, LEAST, LEAST);
    }

    private static void rowsOnSheets() {
        busyWith("crossings(#)", Due.BEYOND, (x, v) -> x.crossings(v), -1, 4, MOST, LEAST);
        busy("crossings(3)", Due.NONE, x -> x.crossings(3));
    }

    private static void minds() {
        busyWith("judge(#, 0)", Due.BEYOND, (x, v) -> x.judge(v, 0), -1, 4, MOST, LEAST);
        busyWith("judge(0, #)", Due.BEYOND, (x, v) -> x.judge(0, v), -1, 3, MOST, LEAST);
        busyWith("judge(3, #): BEYOND is asked first", Due.BEYOND, (x, v) -> x.judge(3, v), -1, 3);
        busyWith("judge(3, #)", Due.NONE, (x, v) -> x.judge(3, v), 0, 2);
    }

    private static void images() {
        anew("restore without an image", Due.NONE, x -> x.restore());
        refused(() -> Due.withPeople(1), "restore without an image, one there", Due.NONE, x -> x.restore());
    }

    private static void telling() {
        full("a 25th", Due.FULL, x -> x.tell(0));
        // None wait behind it: the one change that the document tells.
        Call noneWait = x -> x.check(0);
        for (int man : new int[] {-1, 3, MOST, LEAST}) {
            refused(Scene::busy, "check(" + man + ")", Due.BEYOND, x -> x.check(man), noneWait);
        }
        refused(Scene::full, "check(4)", Due.BEYOND, x -> x.check(4), noneWait);
    }

    private static void whatIsTold() {
        busyWith("count(#)", Due.BEYOND, (x, v) -> x.count(v), -1, 11, MOST, LEAST);
        busyWith("told(#)", Due.BEYOND, (x, v) -> x.told(v), -1, 0, 7, MOST, LEAST);
    }
}
