/** Promises 1 to 9: a new object, people, men. */
public final class PeopleAndMenTest {
    private static final Due due = new Due("PeopleAndMenTest");

    public static void main(String[] args) {
        aNewObject();
        people();
        peopleAreToldAnew();
        knownByAndHeap();
        men();
        keepsOfKinds();
        faresOfKinds();
        theMind();
        menAsKinds();
        menAreToldAnew();
        forgetting();
        due.close();
    }

    private static void aNewObject() {
        FourthFace x = new FourthFace();
        int[] counts = {0, 0, 0, 0, 0, 0, 0, 0, 0, 1, 0};
        for (int what = 0; what < counts.length; what++) {
            due.is("count(" + what + ") of a new object", x.count(what), counts[what]);
        }
        for (int k = 1; k <= 6; k++) {
            due.is("told(" + k + ") of a new object", x.told(k), 0);
        }
        due.is("book(0) of a new object", x.book(0), Due.NONE);
        due.is("body(0) of a new object", x.body(0), Due.NONE);
        due.is("restore() of a new object", x.restore(), Due.NONE);
        due.is("put(0, 0, 0) of a new object", x.put(0, 0, 0), Due.NONE);
        due.is("untell(0) of a new object", x.untell(0), 0);
        due.is("untell(1) of a new object", x.untell(1), 0);
    }

    private static void people() {
        FourthFace x = new FourthFace();
        due.is("person(-1)", x.person(-1), Due.BEYOND);
        due.is("person(2)", x.person(2), Due.BEYOND);
        for (int i = 0; i < 8; i++) {
            due.is("person " + i, x.person(i % 2), i);
        }
        due.is("a ninth person", x.person(0), Due.FULL);
        due.is("a ninth person on no bank", x.person(2), Due.BEYOND);
        due.is("count(0)", x.count(0), 8);
        due.is("bank of 6", x.personIs(6, 0), 0);
        due.is("bank of 7", x.personIs(7, 0), 1);
        due.is("coins of 7", x.personIs(7, 1), 20);
        due.is("who knows 7", x.personIs(7, 2), 0);
        due.is("heap of 7", x.personIs(7, 3), 7);
        due.is("personIs(8, 0)", x.personIs(8, 0), Due.BEYOND);
        due.is("personIs(-1, 0)", x.personIs(-1, 0), Due.BEYOND);
        due.is("personIs(0, 4)", x.personIs(0, 4), Due.BEYOND);
        due.is("personIs(0, -1)", x.personIs(0, -1), Due.BEYOND);
        due.is("told(1)", x.told(1), 7);
        due.is("told(4)", x.told(4), 1);
    }

    private static void peopleAreToldAnew() {
        FourthFace x = Due.withPeople(2);
        due.is("bank to 1", x.setPerson(1, 0, 1), 0);
        due.is("bank to 1 again", x.setPerson(1, 0, 1), 1);
        due.is("bank is 1", x.personIs(1, 0), 1);
        due.is("coins to 9999", x.setPerson(1, 1, 9999), 20);
        due.is("coins to 0", x.setPerson(1, 1, 0), 9999);
        due.is("coins are 0", x.personIs(1, 1), 0);
        due.is("coins of the other", x.personIs(0, 1), 20);
        due.is("bank 2", x.setPerson(0, 0, 2), Due.BEYOND);
        due.is("bank -1", x.setPerson(0, 0, -1), Due.BEYOND);
        due.is("coins -1", x.setPerson(0, 1, -1), Due.BEYOND);
        due.is("coins 10000", x.setPerson(0, 1, 10000), Due.BEYOND);
        due.is("what 2", x.setPerson(0, 2, 0), Due.BEYOND);
        due.is("what -1", x.setPerson(0, -1, 0), Due.BEYOND);
        due.is("no such one", x.setPerson(2, 0, 0), Due.BEYOND);
        due.is("no such one below", x.setPerson(-1, 0, 0), Due.BEYOND);
        due.is("coins stay", x.personIs(0, 1), 20);
        due.is("bank stays", x.personIs(0, 0), 0);
        due.is("told(1)", x.told(1), 8);
    }

    private static void knownByAndHeap() {
        FourthFace x = Due.withPeople(6);
        x.man(0, 0);
        x.man(0, 0);
        x.man(0, 0);
        Scene.carryOverAndBack(x, 0, 4);
        Scene.carryOverAndBack(x, 0, 2);
        Scene.carryOverAndBack(x, 1, 5);
        Scene.carryOverAndBack(x, 1, 4);
        Scene.carryOverAndBack(x, 2, 3);
        Scene.carryOverAndBack(x, 2, 1);
        due.is("who knows 4", x.personIs(4, 2), 2);
        due.is("who knows 5", x.personIs(5, 2), 1);
        due.is("who knows 0", x.personIs(0, 2), 0);
        due.is("heap of 5 by way of 4", x.personIs(5, 3), 2);
        due.is("heap of 2", x.personIs(2, 3), 2);
        due.is("heap of 3", x.personIs(3, 3), 1);
        due.is("heap of 0, whom none knows", x.personIs(0, 3), 0);
        x.setPerson(1, 1, 9);
        Scene.carryOverAndBack(x, 1, 1);
        due.is("all but 0 are one heap", x.personIs(5, 3), 1);
        due.is("also 2", x.personIs(2, 3), 1);
        Scene.carryOverAndBack(x, 2, 0);
        due.is("and 0", x.personIs(5, 3), 0);
    }

    private static void men() {
        FourthFace x = new FourthFace();
        due.is("man(-1, 0)", x.man(-1, 0), Due.BEYOND);
        due.is("man(70, 0)", x.man(70, 0), Due.BEYOND);
        due.is("man(0, 2)", x.man(0, 2), Due.BEYOND);
        due.is("man(0, -1)", x.man(0, -1), Due.BEYOND);
        due.is("man(69, 1)", x.man(69, 1), 0);
        due.is("kind", x.manIs(0, 0), 6);
        due.is("m", x.manIs(0, 1), 9);
        due.is("bank", x.manIs(0, 2), 1);
        due.is("coins", x.manIs(0, 3), 0);
        due.is("known", x.manIs(0, 6), 0);
        for (int what = 7; what <= 14; what++) {
            due.is("face " + what, x.manIs(0, what), -1);
        }
        due.is("manIs(0, 15)", x.manIs(0, 15), Due.BEYOND);
        due.is("manIs(0, -1)", x.manIs(0, -1), Due.BEYOND);
        due.is("manIs(1, 0)", x.manIs(1, 0), Due.BEYOND);
        due.is("manIs(-1, 0)", x.manIs(-1, 0), Due.BEYOND);
        due.is("second", x.man(7, 0), 1);
        due.is("third", x.man(17, 0), 2);
        due.is("fourth", x.man(37, 0), 3);
        due.is("fifth", x.man(0, 0), Due.FULL);
        due.is("fifth of no kind", x.man(70, 0), Due.BEYOND);
        due.is("count(1)", x.count(1), 4);
    }

    private static void kindsAre(String which, int what, int[][] kindDigitWant) {
        for (int[] row : kindDigitWant) {
            FourthFace x = new FourthFace();
            x.man(10 * row[0] + row[1], 0);
            due.is(which + " of kind " + row[0] + ", m " + row[1], x.manIs(0, what), row[2]);
        }
    }

    private static void keepsOfKinds() {
        kindsAre("keeps", 4, new int[][] {
            {0, 0, 3}, {0, 9, 3}, {1, 0, 3}, {1, 5, 8}, {1, 6, 8}, {1, 9, 8}, {2, 9, 3}, {3, 9, 0},
            {4, 0, 2}, {4, 5, 7}, {4, 6, 8}, {4, 9, 8}, {5, 9, 3}, {6, 0, 0}, {6, 8, 8}, {6, 9, 8},
        });
    }

    private static void faresOfKinds() {
        kindsAre("fare", 5, new int[][] {
            {0, 0, 2}, {0, 9, 11}, {1, 4, 6}, {2, 0, 1}, {2, 1, 1}, {2, 9, 5}, {3, 9, 1},
            {4, 0, 3}, {4, 9, 12}, {5, 0, 1}, {5, 3, 2}, {6, 0, 0}, {6, 9, 9},
        });
    }

    private static void theMind() {
        FourthFace x = Due.withPeople(8);
        x.man(15, 0);
        for (int i = 0; i < 8; i++) {
            Scene.carryOverAndBack(x, 0, i);
        }
        due.is("knows eight", x.manIs(0, 6), 8);
        due.is("latest first", x.manIs(0, 7), 7);
        due.is("oldest last", x.manIs(0, 14), 0);
        Scene.carryOverAndBack(x, 0, 3);
        due.is("a face that comes again is first", x.manIs(0, 7), 3);
        due.is("then the one ahead", x.manIs(0, 8), 7);
        due.is("and nowhere else", x.manIs(0, 11), 4);
        due.is("the next behind", x.manIs(0, 12), 2);
        due.is("knows eight still", x.manIs(0, 6), 8);
        x.setMan(0, 0, 0);
        due.is("told anew he keeps three", x.manIs(0, 4), 3);
        due.is("but forgets none yet", x.manIs(0, 6), 8);
        x.cross(0, 0);
        due.is("as a face comes he forgets", x.manIs(0, 6), 3);
        due.is("all but the latest", x.manIs(0, 9), 7);
        due.is("no fourth", x.manIs(0, 10), -1);
    }

    private static void menAsKinds() {
        boolean[][] under = {
            {true, false, false, false, false, false, false},
            {true, true, false, false, false, false, false},
            {true, false, true, false, false, false, false},
            {true, false, false, true, false, false, false},
            {true, true, false, false, true, false, false},
            {true, false, true, false, false, true, false},
            {true, false, false, false, false, false, true},
        };
        for (int kind = 0; kind < 7; kind++) {
            FourthFace x = Due.withPeople(1);
            x.man(0, 0);
            Scene.carryOverAndBack(x, 0, 0);
            x.setMan(0, 0, kind);
            for (int as = 0; as < 7; as++) {
                due.is("a " + kind + " as " + as, x.as(0, as), under[kind][as] ? 2 : Due.KIND);
            }
            due.is("as(0, 7)", x.as(0, 7), Due.BEYOND);
            due.is("as(0, -1)", x.as(0, -1), Due.BEYOND);
            due.is("as(1, 0)", x.as(1, 0), Due.BEYOND);
            due.is("as(-1, 0)", x.as(-1, 0), Due.BEYOND);
        }
    }

    private static void menAreToldAnew() {
        FourthFace x = new FourthFace();
        x.man(23, 1);
        due.is("kind to 6", x.setMan(0, 0, 6), 2);
        due.is("kind to 0", x.setMan(0, 0, 0), 6);
        due.is("m to 9", x.setMan(0, 1, 9), 3);
        due.is("m to 0", x.setMan(0, 1, 0), 9);
        due.is("bank to 0", x.setMan(0, 2, 0), 1);
        due.is("kind 7", x.setMan(0, 0, 7), Due.BEYOND);
        due.is("kind -1", x.setMan(0, 0, -1), Due.BEYOND);
        due.is("m 10", x.setMan(0, 1, 10), Due.BEYOND);
        due.is("m -1", x.setMan(0, 1, -1), Due.BEYOND);
        due.is("bank 2", x.setMan(0, 2, 2), Due.BEYOND);
        due.is("bank -1", x.setMan(0, 2, -1), Due.BEYOND);
        due.is("what 3", x.setMan(0, 3, 0), Due.BEYOND);
        due.is("what -1", x.setMan(0, -1, 0), Due.BEYOND);
        due.is("no such man", x.setMan(1, 0, 0), Due.BEYOND);
        due.is("no such man below", x.setMan(-1, 0, 0), Due.BEYOND);
        due.is("kind stays", x.manIs(0, 0), 0);
        due.is("m stays", x.manIs(0, 1), 0);
        due.is("bank stays", x.manIs(0, 2), 0);
    }

    private static void forgetting() {
        FourthFace x = Due.withPeople(3);
        x.man(0, 0);
        x.man(0, 0);
        Scene.carryOverAndBack(x, 0, 0);
        Scene.carryOverAndBack(x, 0, 1);
        Scene.carryOverAndBack(x, 1, 1);
        due.is("forgets two", x.forget(0), 2);
        due.is("forgets none", x.forget(0), 0);
        due.is("no face", x.manIs(0, 7), -1);
        due.is("the other knows", x.manIs(1, 6), 1);
        due.is("coins stay", x.manIs(0, 3), 4);
        due.is("forget(2)", x.forget(2), Due.BEYOND);
        due.is("forget(-1)", x.forget(-1), Due.BEYOND);
    }
}
