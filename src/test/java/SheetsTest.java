/** Promises 29 to 33: sheets, crossings by them, a mind judged by one. */
public final class SheetsTest {
    private static final Due due = new Due("SheetsTest");

    public static void main(String[] args) {
        sheets();
        wrongSheets();
        numbers();
        lowestBits();
        moves();
        movesWithin();
        wrongMoves();
        crossings();
        crossingsThatEnd();
        judging();
        due.close();
    }

    private static void sheets() {
        FourthFace x = new FourthFace();
        int[] bits = {8, 16, 32, 8};
        for (int sheet = 0; sheet < 4; sheet++) {
            due.is("missing at first", x.crossings(sheet), Due.NONE);
            due.is("sheet " + sheet, x.sheet(sheet, bits[sheet], 24), 1);
            due.is("its last number", x.put(sheet, 23, 1), 1);
            due.is("none behind", x.put(sheet, 24, 1), Due.BEYOND);
        }
        due.is("missing again", x.sheet(1, 0, -99), 1);
        due.is("it is", x.put(1, 0, 1), Due.NONE);
        due.is("missing, many numbers", x.sheet(2, 0, 99), 1);
        due.is("it is, too", x.put(2, 0, 1), Due.NONE);
        due.is("of no numbers", x.sheet(3, 16, 0), 1);
        due.is("not missing", x.put(3, 0, 1), Due.BEYOND);
        due.is("no crossings of none", x.crossings(3), 0);
    }

    private static void wrongSheets() {
        FourthFace x = new FourthFace();
        due.is("sheet(4, ..)", x.sheet(4, 8, 1), Due.BEYOND);
        due.is("sheet(-1, ..)", x.sheet(-1, 8, 1), Due.BEYOND);
        due.is("7 bits", x.sheet(0, 7, 1), Due.BEYOND);
        due.is("64 bits", x.sheet(0, 64, 1), Due.BEYOND);
        due.is("-8 bits", x.sheet(0, -8, 1), Due.BEYOND);
        due.is("25 numbers", x.sheet(0, 8, 25), Due.BEYOND);
        due.is("-1 numbers", x.sheet(0, 8, -1), Due.STATE);
        due.is("-1 numbers of 7 bits", x.sheet(0, 7, -1), Due.BEYOND);
        due.is("-1 numbers of no sheet", x.sheet(4, 8, -1), Due.BEYOND);
        due.is("it is missing", x.put(0, 0, 0), Due.NONE);
        x.sheet(0, 8, 2);
        x.sheet(0, 16, -1);
        due.is("as it was", x.put(0, 1, 0), 1);
    }

    private static void numbers() {
        FourthFace x = Scene.known(8, 8);
        Scene.sheetOf(x, 0, 32, 7, 6, 5, 4, 3, 2, 1, 0);
        due.is("as put", x.judge(0, 0), -1);
        x.sheet(0, 32, 8);
        due.is("all 0 anew", x.judge(0, 0), 0);
        due.is("put(4, ..)", x.put(4, 0, 0), Due.BEYOND);
        due.is("put(-1, ..)", x.put(-1, 0, 0), Due.BEYOND);
        due.is("put(0, 8, ..)", x.put(0, 8, 0), Due.BEYOND);
        due.is("put(0, -1, ..)", x.put(0, -1, 0), Due.BEYOND);
        due.is("put(1, 0, ..)", x.put(1, 0, 0), Due.NONE);
        due.is("put(1, 99, ..)", x.put(1, 99, 0), Due.NONE);
    }

    private static void lowestBits() {
        FourthFace x = Scene.known(8, 8);
        int[] bits = {8, 16, 32};
        for (int i = 0; i < 3; i++) {
            Scene.sheetOf(x, 0, bits[i], 7 | 0xABCD0000, 6, 5, 4, 3, 2, 1, 0);
            due.is("high half, " + bits[i] + " bits", x.judge(0, 0), bits[i] < 32 ? -1 : 0);
            Scene.sheetOf(x, 0, bits[i], 7, 6 | 0x0000CD00, 5, 4, 3, 2, 1, 0);
            due.is("second byte, " + bits[i] + " bits", x.judge(0, 0), bits[i] < 16 ? -1 : 1);
        }
        Scene.sheetOf(x, 0, 8, 256, -256);
        due.is("256 in 8 bits is 0, -256, too", x.crossings(0), 1);
    }

    private static void moves() {
        FourthFace x = Scene.known(8, 8);
        Scene.sheetOf(x, 0, 8, 9, 9, 7, 6, 5, 4);
        Scene.sheetOf(x, 1, 8, 0, 0, 0, 0, 3, 2, 1, 0);
        due.is("four", x.move(0, 2, 1, 0, 4), 4);
        due.is("they came", x.judge(1, 0), -1);
        due.is("none", x.move(0, 6, 1, 8, 0), 0);
        due.is("all", x.move(1, 0, 1, 0, 8), 8);
        due.is("as they were", x.judge(1, 0), -1);
        Scene.sheetOf(x, 2, 8, 7, 6, 5, 4, 3, 2, 1, 0);
        due.is("one", x.move(0, 0, 2, 7, 1), 1);
        due.is("to its place", x.judge(2, 0), 7);
    }

    private static void movesWithin() {
        FourthFace x = Scene.known(8, 8);
        Scene.sheetOf(x, 0, 16, 7, 5, 4, 3, 2, 1, 0, 99);
        due.is("up by one", x.move(0, 1, 0, 2, 6), 6);
        x.put(0, 1, 6);
        due.is("as they all were", x.judge(0, 0), -1);
        Scene.sheetOf(x, 0, 16, 99, 7, 6, 5, 4, 3, 2, 1);
        due.is("down by one", x.move(0, 1, 0, 0, 7), 7);
        x.put(0, 7, 0);
        due.is("as they all were, too", x.judge(0, 0), -1);
    }

    private static void wrongMoves() {
        FourthFace x = new FourthFace();
        x.sheet(0, 8, 5);
        x.sheet(1, 16, 5);
        x.sheet(2, 8, 3);
        due.is("from no sheet", x.move(4, 0, 0, 0, 1), Due.BEYOND);
        due.is("to no sheet", x.move(0, 0, -1, 0, 1), Due.BEYOND);
        due.is("to no sheet from a missing one", x.move(3, 0, 4, 0, 1), Due.BEYOND);
        due.is("from a missing one", x.move(3, 0, 0, 0, 1), Due.NONE);
        due.is("to a missing one", x.move(0, 0, 3, 0, 1), Due.NONE);
        due.is("to a missing one, -1 numbers", x.move(0, 0, 3, 0, -1), Due.NONE);
        due.is("of unlike bits", x.move(0, 0, 1, 0, 1), Due.KIND);
        due.is("of unlike bits, -1 numbers", x.move(0, 0, 1, 0, -1), Due.KIND);
        due.is("-1 numbers", x.move(0, 0, 2, 0, -1), Due.BEYOND);
        due.is("from -1", x.move(0, -1, 2, 0, 1), Due.BEYOND);
        due.is("to -1", x.move(0, 0, 2, -1, 1), Due.BEYOND);
        due.is("more than are there", x.move(0, 3, 2, 0, 3), Due.BEYOND);
        due.is("more than have room", x.move(0, 0, 2, 1, 3), Due.BEYOND);
        due.is("the most there is", x.move(0, Integer.MAX_VALUE, 2, 0, 1), Due.BEYOND);
        due.is("the most from the most", x.move(0, Integer.MAX_VALUE, 2, 0, Integer.MAX_VALUE), Due.BEYOND);
        due.is("to the most", x.move(0, 0, 2, Integer.MAX_VALUE, 3), Due.BEYOND);
        due.is("none from behind the end", x.move(0, 6, 2, 0, 0), Due.BEYOND);
        due.is("three", x.move(0, 2, 2, 0, 3), 3);
        due.is("told(5)", x.told(5), 2);
    }

    private static void crossings() {
        FourthFace x = Due.withPeople(3);
        x.man(1, 0);
        x.man(0, 0);
        Scene.sheetOf(x, 0, 32, 0, 2, 0, 2, 1, 0);
        due.is("three came", x.crossings(0), 3);
        due.is("the latest", x.book(0), 10);
        due.is("the first", x.book(2), 2);
        due.is("paid", x.manIs(0, 3), 3);
        due.is("the turn", x.count(2), 3);
        due.is("crossings(4)", x.crossings(4), Due.BEYOND);
        due.is("crossings(-1)", x.crossings(-1), Due.BEYOND);
        due.is("crossings(1)", x.crossings(1), Due.NONE);
    }

    private static void crossingsThatEnd() {
        FourthFace x = Due.withPeople(2);
        x.man(0, 0);
        Scene.sheetOf(x, 0, 8, 0, 0, 0);
        due.is("one that isn't whole", x.crossings(0), 1);
        Scene.sheetOf(x, 0, 8, 0, 1, 0, 0);
        due.is("one on another bank", x.crossings(0), 0);
        Scene.sheetOf(x, 0, 8, 0, 0, 0, 1, 0, 0, 0, 0);
        due.is("up to the first that is refused", x.crossings(0), 2);
        due.is("what came stays", x.count(2), 3);
        Scene.sheetOf(x, 0, 8, 0, 2);
        due.is("no such one", x.crossings(0), 0);
        Scene.sheetOf(x, 0, 8, 1, 0);
        due.is("no such man", x.crossings(0), 0);
        Scene.sheetOf(x, 0, 8, -1, -1);
        due.is("below", x.crossings(0), 0);
        Scene.sheetOf(x, 0, 8, 0);
        due.is("half a crossing", x.crossings(0), 0);
        due.is("none of it is an error", x.told(1) + x.told(3), 0);
    }

    private static void judging() {
        FourthFace x = Due.withPeople(4);
        x.man(0, 0);
        x.man(0, 0);
        for (int i = 1; i < 4; i++) {
            x.cross(0, i);
            x.cross(0, i);
        }
        Scene.sheetOf(x, 0, 8, 3, 2, 1);
        due.is("all are", x.judge(0, 0), -1);
        due.is("too many for an empty mind", x.judge(0, 1), 0);
        Scene.sheetOf(x, 0, 8, 3, 1, 2);
        due.is("another order", x.judge(0, 0), 1);
        Scene.sheetOf(x, 0, 8, 3, 2);
        due.is("one lacks", x.judge(0, 0), 2);
        Scene.sheetOf(x, 0, 8, 3, 2, 1, 0);
        due.is("one too many", x.judge(0, 0), 3);
        Scene.sheetOf(x, 0, 8, 3, 2, 0, 0);
        due.is("a wrong one first", x.judge(0, 0), 2);
        Scene.sheetOf(x, 0, 8, -1);
        due.is("none such", x.judge(0, 0), 0);
        x.sheet(0, 8, 0);
        due.is("all lack", x.judge(0, 0), 0);
        due.is("an empty mind, no numbers", x.judge(0, 1), -1);
        due.is("judge(4, 0)", x.judge(4, 0), Due.BEYOND);
        due.is("judge(-1, 0)", x.judge(-1, 0), Due.BEYOND);
        due.is("judge(0, 2)", x.judge(0, 2), Due.BEYOND);
        due.is("judge(0, -1)", x.judge(0, -1), Due.BEYOND);
        due.is("judge(1, 2)", x.judge(1, 2), Due.BEYOND);
        due.is("judge(1, 0)", x.judge(1, 0), Due.NONE);
    }
}
