/** Promises 13 to 17: crossings, men alone, draws, the toll book. */
public final class CrossingsTest {
    private static final Due due = new Due("CrossingsTest");

    public static void main(String[] args) {
        aCrossing();
        refusals();
        coinsThatDontReach();
        aPaidOneForgets();
        aGossip();
        aBlindOneForgetsAll();
        aTextMayMakeAFareOfNone();
        aManAlone();
        drawsOneByOne();
        drawsWithNobodyThere();
        wrongDraws();
        theSeed();
        theBook();
        theLastTurn();
        due.close();
    }

    private static void aCrossing() {
        FourthFace x = Due.withPeople(2);
        x.man(3, 0);
        due.is("a stranger goes free", x.cross(0, 1), 0);
        due.is("the man is over", x.manIs(0, 2), 1);
        due.is("the one is over", x.personIs(1, 0), 1);
        due.is("the other is not", x.personIs(0, 0), 0);
        due.is("the turn", x.count(2), 1);
        due.is("he knows the one", x.manIs(0, 7), 1);
        due.is("whom he knows pays", x.cross(0, 1), 5);
        due.is("from the one's coins", x.personIs(1, 1), 15);
        due.is("to his", x.manIs(0, 3), 5);
        due.is("both are back", x.manIs(0, 2) + x.personIs(1, 0), 0);
        due.is("the turn is 2", x.count(2), 2);
        due.is("the book has 2", x.count(10), 2);
        due.is("coins of all", x.count(5), 40);
    }

    private static void refusals() {
        FourthFace x = Due.withPeople(2);
        x.man(0, 0);
        x.setPerson(1, 0, 1);
        due.is("another bank", x.cross(0, 1), Due.STATE);
        due.is("no such man", x.cross(1, 0), Due.BEYOND);
        due.is("no such man below", x.cross(-1, 0), Due.BEYOND);
        due.is("no such one", x.cross(0, 2), Due.BEYOND);
        due.is("no such one below", x.cross(0, -1), Due.BEYOND);
        due.is("nothing came of it", x.count(2) + x.count(10) + x.manIs(0, 2), 0);
        due.is("told(1)", x.told(1), 4);
        due.is("told(3)", x.told(3), 1);
    }

    private static void coinsThatDontReach() {
        FourthFace x = Due.withPeople(1);
        x.man(9, 0);
        x.setPerson(0, 1, 13);
        x.cross(0, 0);
        due.is("all of the fare", x.cross(0, 0), 11);
        due.is("what there is", x.cross(0, 0), 2);
        due.is("nothing left", x.cross(0, 0), 0);
        due.is("his coins", x.manIs(0, 3), 13);
        due.is("he knows the one still", x.manIs(0, 6), 1);
    }

    private static void aPaidOneForgets() {
        FourthFace x = Due.withPeople(3);
        x.man(52, 0);
        Scene.carryOverAndBack(x, 0, 0);
        due.is("paid and forgotten", x.manIs(0, 6), 0);
        due.is("a fare of two", x.manIs(0, 3), 2);
        x.setPerson(1, 1, 1);
        Scene.carryOverAndBack(x, 0, 1);
        due.is("one coin of two", x.manIs(0, 3), 3);
        due.is("not paid, not forgotten", x.manIs(0, 7), 1);
        Scene.carryOverAndBack(x, 0, 2);
        x.cross(0, 0);
        due.is("three: 0 over", x.manIs(0, 7), 0);
        due.is("1 behind", x.manIs(0, 8), 1);
        x.cross(0, 1);
        due.is("not on this bank", x.told(3), 1);
        x.cross(0, 0);
        due.is("0 pays and is forgotten, the others stay", x.manIs(0, 7), 1);
        due.is("one is left", x.manIs(0, 6), 1);
        x.setMan(0, 0, 2);
        Scene.carryOverAndBack(x, 0, 0);
        due.is("a SOFT one forgets none who paid", x.manIs(0, 7), 0);
    }

    private static void aGossip() {
        FourthFace x = Due.withPeople(4);
        x.man(40, 0);
        x.man(0, 1);
        x.man(50, 1);
        x.man(30, 1);
        x.setPerson(3, 0, 1);
        x.cross(1, 3);
        x.alone(1);
        due.is("1 knows 3", x.manIs(1, 7), 3);
        x.cross(0, 2);
        due.is("he himself", x.manIs(0, 7), 2);
        due.is("those on the bank where he is now", x.manIs(1, 7), 2);
        due.is("what they knew is behind", x.manIs(1, 8), 3);
        due.is("a PAID one, too", x.manIs(2, 7), 2);
        due.is("a BLIND one keeps none", x.manIs(3, 6), 0);
        x.alone(1);
        x.alone(2);
        x.cross(0, 2);
        due.is("it pays", x.personIs(2, 1), 17);
        due.is("the ones on the other bank hear it", x.manIs(2, 7), 2);
        x.alone(2);
        x.cross(0, 0);
        due.is("1, left behind, doesn't hear", x.manIs(1, 7), 2);
        due.is("2 hears of 0", x.manIs(2, 7), 0);
        due.is("a paid fare of a gossip is passed on", x.cross(0, 0), 3);
        due.is("1 hears of 0", x.manIs(1, 7), 0);
        due.is("hearing is in no book", x.count(10), 5);
    }

    private static void aBlindOneForgetsAll() {
        FourthFace x = Due.withPeople(2);
        x.man(0, 0);
        Scene.carryOverAndBack(x, 0, 0);
        x.setMan(0, 0, 3);
        due.is("told anew he knows", x.manIs(0, 6), 1);
        due.is("a stranger goes free", x.cross(0, 1), 0);
        due.is("a face comes and none stays", x.manIs(0, 6), 0);
        due.is("nor for the next", x.cross(0, 1), 0);
    }

    private static void aTextMayMakeAFareOfNone() {
        FourthFace x = Due.withPeople(1);
        x.man(62, 0);
        Due.text(x, 1, "0");
        Scene.carryOverAndBack(x, 0, 0);
        due.is("known", x.manIs(0, 6), 1);
        due.is("pays none", x.cross(0, 0), 0);
    }

    private static void aManAlone() {
        FourthFace x = Due.withPeople(1);
        x.man(40, 0);
        x.man(0, 1);
        due.is("over", x.alone(0), 1);
        due.is("back", x.alone(0), 0);
        due.is("the other", x.alone(1), 0);
        due.is("the turn", x.count(2), 3);
        due.is("in no book", x.count(10), 0);
        due.is("none knows more", x.manIs(0, 6) + x.manIs(1, 6), 0);
        due.is("alone(2)", x.alone(2), Due.BEYOND);
        due.is("alone(-1)", x.alone(-1), Due.BEYOND);
    }

    private static void drawsOneByOne() {
        FourthFace x = Due.withPeople(3);
        x.man(0, 0);
        x.man(0, 0);
        int z = 1103527590;
        int man = (z >>> 8) % 2;
        z = z * 1103515245 + 12345;
        int one = (z >>> 8) % 3;
        due.is("one draw", x.draws(1), 1);
        due.is("who crossed", x.book(0), 10 * man + one);
        due.is("z behind two draws", x.count(9), z);
        due.is("he is over", x.manIs(man, 2), 1);
        due.is("the one, too", x.personIs(one, 0), 1);
    }

    private static void drawsWithNobodyThere() {
        FourthFace x = new FourthFace();
        x.person(0);
        x.person(0);
        x.man(0, 1);
        int z = 1 * 1103515245 + 12345;
        due.is("one draw", x.draws(1), 1);
        due.is("he went alone", x.manIs(0, 2), 0);
        due.is("no second draw", x.count(9), z);
        due.is("no book", x.count(10), 0);
        z = z * 1103515245 + 12345;
        z = z * 1103515245 + 12345;
        due.is("another", x.draws(1), 2);
        due.is("two draws now", x.count(9), z);
        due.is("one is over", x.count(10), 1);
        due.is("who", x.book(0), (z >>> 8) % 2);
        FourthFace y = new FourthFace();
        y.man(0, 0);
        due.is("without people", y.draws(60), 60);
        due.is("no book at all", y.count(10), 0);
    }

    private static void wrongDraws() {
        FourthFace x = new FourthFace();
        due.is("no men", x.draws(1), Due.STATE);
        due.is("no men and no number", x.draws(0), Due.BEYOND);
        x.man(0, 0);
        due.is("draws(0)", x.draws(0), Due.BEYOND);
        due.is("draws(61)", x.draws(61), Due.BEYOND);
        due.is("draws(-1)", x.draws(-1), Due.BEYOND);
        due.is("nothing came of it", x.count(2), 0);
        due.is("z stays", x.count(9), 1);
    }

    private static void theSeed() {
        FourthFace x = new FourthFace();
        due.is("first", x.seed(-1000000001), 1);
        due.is("any number", x.seed(Integer.MIN_VALUE), -1000000001);
        due.is("count(9)", x.count(9), Integer.MIN_VALUE);
        due.is("no error", x.told(1), 0);
        x.man(0, 0);
        x.person(0);
        x.person(0);
        x.seed(-5);
        // Draws are never below 0, however z is.
        due.is("draws(9)", x.draws(9), 9);
    }

    private static void theBook() {
        FourthFace x = Due.withPeople(3);
        x.man(0, 0);
        x.man(0, 0);
        due.is("empty", x.book(0), Due.NONE);
        x.cross(1, 2);
        x.cross(1, 2);
        x.alone(0);
        x.alone(0);
        x.cross(0, 1);
        due.is("the latest", x.book(0), 1);
        due.is("one ahead", x.book(1), 12);
        due.is("the first", x.book(2), 12);
        due.is("none such", x.book(3), Due.NONE);
        due.is("book(-1)", x.book(-1), Due.NONE);
        x.cross(0, 1);
        for (int i = 0; i < 22; i++) {
            x.cross(0, 0);
        }
        due.is("24 of 26", x.count(10), 24);
        due.is("the 24th", x.book(23), 1);
        due.is("the 25th", x.book(24), Due.NONE);
        x.cross(0, 0);
        x.cross(0, 0);
        due.is("the oldest are gone", x.book(23), 0);
        due.is("told(2)", x.told(2), 4);
    }

    private static void theLastTurn() {
        FourthFace x = Due.withPeople(2);
        x.man(0, 0);
        for (int i = 0; i < 166; i++) {
            x.draws(60);
        }
        due.is("9960", x.count(2), 9960);
        due.is("40 more would be 10000", x.draws(40), Due.STATE);
        due.is("39 more", x.draws(39), 9999);
        due.is("draws(1)", x.draws(1), Due.STATE);
        due.is("alone", x.alone(0), Due.STATE);
        due.is("alone(1)", x.alone(1), Due.BEYOND);
        int bank = x.manIs(0, 2);
        x.setPerson(1, 0, bank);
        due.is("cross", x.cross(0, 1), Due.STATE);
        due.is("hearsay is no act of crossing", x.hearsay(0, 1), 1);
        x.sheet(0, 8, 2);
        x.put(0, 1, 1);
        due.is("crossings", x.crossings(0), 0);
        due.is("the bank stays", x.manIs(0, 2), bank);
        due.is("told(3)", x.told(3), 4);
    }
}
