/** The boundaries that the document's Terms name: the last that is taken and the first that isn't. */
public final class TermsTest {
    private static final Due due = new Due("TermsTest");

    public static void main(String[] args) {
        fiveHundredAndTwelveCalls();
        fiveHundredAndTwelveErrors();
        errorsAreAnswersBelowLow();
        keepsAtTheirEnds();
        faresAtTheirEnds();
        toldKeepsAtTheirEnds();
        toldFaresAtTheirEnds();
        theLastTurn();
        whatWouldBeGoesOnBehindTheLastTurn();
        aMansMostCoins();
        facesBehindKeeps();
        forgottenOnlyAsAFaceComes();
        aFaceThatWasThere();
        coinsAtTheFare();
        paidAndNotPaid();
        paidForgetsTheOneAlone();
        paidForgetsAnyOfEight();
        aGossipIsHeardByAllThere();
        theBookAtItsEnd();
        heapsOfNoneAndAll();
        due.close();
    }

    private static void fiveHundredAndTwelveCalls() {
        FourthFace x = new FourthFace();
        due.is("call 1", x.man(0, 0), 0);
        for (int call = 2; call <= 511; call++) {
            due.is("call " + call, x.alone(0), 1 - call % 2);
        }
        due.is("call 512", x.count(2), 510);
        FourthFace y = new FourthFace();
        for (int call = 1; call <= 512; call++) {
            due.is("image " + call, y.image(), call);
        }
        FourthFace z = Due.withPeople(8);
        z.man(15, 0);
        for (int call = 10; call <= 511; call++) {
            z.cross(0, (call / 2) % 8);
        }
        due.is("call 512: all coins have come to him", z.manIs(0, 3), 160);
    }

    private static void fiveHundredAndTwelveErrors() {
        FourthFace x = new FourthFace();
        for (int call = 1; call <= 511; call++) {
            x.count(11);
        }
        due.is("call 512 tells 511 of them", x.told(1), 511);
    }

    private static void errorsAreAnswersBelowLow() {
        FourthFace x = new FourthFace();
        x.man(0, 0);
        x.person(0);
        due.is("BEYOND", x.person(2), -1000000001);
        due.is("NONE", x.book(0), -1000000002);
        due.is("STATE", x.sheet(0, 8, -1), -1000000003);
        for (int i = 0; i < 24; i++) {
            x.tell(i);
        }
        due.is("FULL", x.tell(0), -1000000004);
        due.is("KIND", x.as(0, 1), -1000000005);
        due.is("PARTED", x.voice(0, 3, 1), -1000000006);
        // Any int may be a voice's answer; it is no ERROR then.
        for (int low = 0; low <= 7; low++) {
            due.is("a voice's number", x.voice(0, 0, -1000000000 - low), -1000000000 - low);
        }
        for (int k = 1; k <= 6; k++) {
            due.is("told(" + k + ")", x.told(k), 1);
        }
    }

    private static void kindIs(String which, int what, int kind, int... byDigit) {
        for (int m = 0; m < 10; m++) {
            FourthFace x = new FourthFace();
            x.man(10 * kind + m, 0);
            due.is(which + " of kind " + kind + ", m " + m, x.manIs(0, what), byDigit[m]);
        }
    }

    private static void keepsAtTheirEnds() {
        kindIs("keeps", 4, 0, 3, 3, 3, 3, 3, 3, 3, 3, 3, 3);
        kindIs("keeps", 4, 1, 3, 4, 5, 6, 7, 8, 8, 8, 8, 8);
        kindIs("keeps", 4, 2, 3, 3, 3, 3, 3, 3, 3, 3, 3, 3);
        kindIs("keeps", 4, 3, 0, 0, 0, 0, 0, 0, 0, 0, 0, 0);
        // Held at the end alone: 3 and 6, less 1.
        kindIs("keeps", 4, 4, 2, 3, 4, 5, 6, 7, 8, 8, 8, 8);
        kindIs("keeps", 4, 5, 3, 3, 3, 3, 3, 3, 3, 3, 3, 3);
        kindIs("keeps", 4, 6, 0, 1, 2, 3, 4, 5, 6, 7, 8, 8);
    }

    private static void faresAtTheirEnds() {
        kindIs("fare", 5, 0, 2, 3, 4, 5, 6, 7, 8, 9, 10, 11);
        kindIs("fare", 5, 1, 2, 3, 4, 5, 6, 7, 8, 9, 10, 11);
        kindIs("fare", 5, 2, 1, 1, 2, 2, 3, 3, 4, 4, 5, 5);
        kindIs("fare", 5, 3, 1, 1, 1, 1, 1, 1, 1, 1, 1, 1);
        kindIs("fare", 5, 4, 3, 4, 5, 6, 7, 8, 9, 10, 11, 12);
        kindIs("fare", 5, 5, 1, 1, 2, 2, 3, 3, 4, 4, 5, 5);
        kindIs("fare", 5, 6, 0, 1, 2, 3, 4, 5, 6, 7, 8, 9);
    }

    private static void toldIs(String text, int use, int want) {
        FourthFace x = new FourthFace();
        x.man(60, 0);
        due.is("text " + text, Due.text(x, use, text), 1);
        due.is("use " + use + " by " + text, x.manIs(0, 4 + use), want);
    }

    private static void toldKeepsAtTheirEnds() {
        toldIs("0", 0, 0);
        toldIs("1", 0, 1);
        toldIs("0-1", 0, 0);
        toldIs("7", 0, 7);
        toldIs("8", 0, 8);
        toldIs("9", 0, 8);
        toldIs("9999", 0, 8);
        toldIs("256*256*256*127", 0, 8);
        toldIs("256*256*256*128", 0, 0);
    }

    private static void toldFaresAtTheirEnds() {
        toldIs("0", 1, 0);
        toldIs("1", 1, 1);
        toldIs("0-1", 1, 0);
        toldIs("98", 1, 98);
        toldIs("99", 1, 99);
        toldIs("100", 1, 99);
        toldIs("9999", 1, 99);
        toldIs("256*256*256*127", 1, 99);
        toldIs("256*256*256*128", 1, 0);
    }

    private static void theLastTurn() {
        FourthFace x = Scene.late(9998);
        due.is("cross at 9998", x.cross(0, 0) >= 0 ? 1 : 0, 1);
        due.is("it is 9999", x.count(2), 9999);
        due.is("cross at 9999", x.cross(0, 0), Due.STATE);
        x = Scene.late(9998);
        due.is("alone at 9998", x.alone(0), 1);
        due.is("it is 9999", x.count(2), 9999);
        due.is("alone at 9999", x.alone(0), Due.STATE);
        x = Scene.late(9998);
        due.is("a draw at 9998", x.draws(1), 9999);
        x = Scene.late(9939);
        due.is("60 draws at 9939", x.draws(60), 9999);
        x = Scene.late(9998);
        x.sheet(0, 8, 4);
        due.is("two crossings at 9998: one came", x.crossings(0), 1);
        due.is("it is 9999", x.count(2), 9999);
        due.is("none came at 9999", x.crossings(0), 0);
        due.is("no ERROR", x.told(3), 0);
    }

    private static void whatWouldBeGoesOnBehindTheLastTurn() {
        FourthFace x = Scene.late(9999);
        x.forget(0);
        x.debt(0, 1, 5);
        x.image();
        due.is("hearsay", x.hearsay(0, 0), 1);
        due.is("loses", x.loses(0, 0), 0);
        due.is("way", x.way(0, 6, -1), 5 * 7);
        due.is("stranger", x.stranger(1, 0, 4), 1);
        due.is("rows", x.rows(2, 0), 0);
        due.is("TURN", x.count(2), 9999);
        due.is("restore", x.restore(), 9999);
    }

    /** 9998 crossings are paid, 99 each: no more than these may come to one man. */
    private static void aMansMostCoins() {
        FourthFace x = Due.withPeople(1);
        x.man(69, 0);
        Due.text(x, 1, "99");
        x.cross(0, 0);
        for (int turn = 1; turn < 9999; turn += 60) {
            x.setPerson(0, 1, 9999);
            x.draws(Math.min(60, 9999 - turn));
        }
        due.is("his coins", x.manIs(0, 3), 989802);
        due.is("as one of a KIND", x.as(0, 0), 989802);
        due.is("the one's", x.personIs(0, 1), 9999 - 38 * 99);
        due.is("of all", x.count(5), 989802 + 9999 - 38 * 99);
        due.is("TURN", x.count(2), 9999);
    }

    private static void mindIs(FourthFace x, String when, int man, int... faces) {
        due.is(when + ": knows", x.manIs(man, 6), faces.length);
        for (int i = 0; i < 8; i++) {
            due.is(when + ": face " + i, x.manIs(man, 7 + i), i < faces.length ? faces[i] : -1);
        }
    }

    private static void facesBehindKeeps() {
        FourthFace x = Due.withPeople(8);
        x.man(0, 0);
        mindIs(x, "none", 0);
        Scene.carryOverAndBack(x, 0, 0);
        Scene.carryOverAndBack(x, 0, 1);
        Scene.carryOverAndBack(x, 0, 2);
        mindIs(x, "the third of three", 0, 2, 1, 0);
        Scene.carryOverAndBack(x, 0, 3);
        mindIs(x, "the fourth puts out the first", 0, 3, 2, 1);
        x.setMan(0, 0, 1);
        x.setMan(0, 1, 5);
        for (int i = 4; i < 8; i++) {
            Scene.carryOverAndBack(x, 0, i);
        }
        mindIs(x, "seven of eight", 0, 7, 6, 5, 4, 3, 2, 1);
        Scene.carryOverAndBack(x, 0, 0);
        mindIs(x, "eight of eight", 0, 0, 7, 6, 5, 4, 3, 2, 1);
        Scene.carryOverAndBack(x, 0, 1);
        mindIs(x, "the last comes again", 0, 1, 0, 7, 6, 5, 4, 3, 2);
        x.setMan(0, 1, 4);
        Scene.carryOverAndBack(x, 0, 1);
        mindIs(x, "by 7 the eighth is forgotten", 0, 1, 0, 7, 6, 5, 4, 3);
    }

    /** Man 0 of a KIND and m knows 4, 3, 2, 1, 0; man 1, a GOSSIP, is with him. */
    private static FourthFace fiveKnown() {
        FourthFace x = Due.withPeople(8);
        x.man(19, 0);
        x.man(40, 0);
        for (int i = 0; i < 5; i++) {
            Scene.carryOverAndBack(x, 0, i);
        }
        return x;
    }

    private static void forgottenOnlyAsAFaceComes() {
        FourthFace x = fiveKnown();
        x.setMan(0, 1, 0);
        mindIs(x, "m told anew", 0, 4, 3, 2, 1, 0);
        x.alone(0);
        x.alone(0);
        mindIs(x, "alone no face comes", 0, 4, 3, 2, 1, 0);
        x.alone(0);
        x.cross(1, 5);
        mindIs(x, "a face comes by gossip", 0, 5, 4, 3);
        x = fiveKnown();
        x.setMan(0, 0, 6);
        Due.text(x, 0, "2");
        mindIs(x, "KIND and TEXT told anew", 0, 4, 3, 2, 1, 0);
        Scene.carryOverAndBack(x, 0, 5);
        mindIs(x, "a face comes", 0, 5, 4);
        Due.text(x, 0, "1");
        due.is("keeps 1", x.manIs(0, 4), 1);
        mindIs(x, "another TEXT", 0, 5, 4);
        Due.text(x, 0, "0");
        due.is("untell", x.untell(0), 1);
        x.setMan(0, 1, 0);
        mindIs(x, "no TEXT any more", 0, 5, 4);
        due.is("who knows 4 still", x.personIs(4, 2), 1);
        x.cross(0, 4);
        mindIs(x, "of no face kept none stays", 0);
    }

    private static void aFaceThatWasThere() {
        FourthFace x = fiveKnown();
        x.setMan(0, 0, 0);
        x.cross(0, 0);
        mindIs(x, "the last, far behind KEEPS, is first", 0, 0, 4, 3);
        x = fiveKnown();
        x.setMan(0, 0, 0);
        x.cross(0, 4);
        mindIs(x, "the first stays first", 0, 4, 3, 2);
        x = fiveKnown();
        x.setMan(0, 0, 5);
        x.cross(0, 0);
        // No FACE COMES where it is forgotten: what is behind KEEPS stays.
        mindIs(x, "the last is PAID and forgotten alone", 0, 4, 3, 2, 1);
    }

    private static void coinsAtTheFare() {
        int[] coins = {99, 98, 100, 0, 1, 9999};
        for (int has : coins) {
            FourthFace x = Due.withPeople(1);
            x.man(69, 0);
            Due.text(x, 1, "99");
            x.setPerson(0, 1, has);
            due.is("a stranger goes free", x.cross(0, 0), 0);
            int paid = Math.min(has, 99);
            due.is("of " + has + " coins", x.cross(0, 0), paid);
            due.is("left of " + has, x.personIs(0, 1), has - paid);
            due.is("his", x.manIs(0, 3), paid);
        }
    }

    private static void paidAndNotPaid() {
        // A PAID one of m 4: FARE 3.
        int[] coins = {2, 3, 4, 0};
        int[] known = {1, 0, 0, 1};
        for (int i = 0; i < coins.length; i++) {
            FourthFace x = Due.withPeople(1);
            x.man(54, 0);
            x.setPerson(0, 1, coins[i]);
            x.cross(0, 0);
            due.is("a stranger's face comes, nothing being PAID", x.manIs(0, 6), 1);
            due.is("of " + coins[i] + " coins", x.cross(0, 0), Math.min(coins[i], 3));
            due.is("of " + coins[i] + " coins: known", x.manIs(0, 6), known[i]);
        }
        // The least FARE of a PAID one is 1: m 0 and m 1.
        for (int m = 0; m < 2; m++) {
            FourthFace x = Due.withPeople(1);
            x.man(50 + m, 0);
            Scene.carryOverAndBack(x, 0, 0);
            due.is("one coin is all", x.manIs(0, 3), 1);
            due.is("forgotten", x.manIs(0, 6), 0);
        }
    }

    private static void paidForgetsTheOneAlone() {
        for (int one = 0; one < 3; one++) {
            FourthFace x = Due.withPeople(3);
            x.man(20, 0);
            for (int i = 0; i < 3; i++) {
                Scene.carryOverAndBack(x, 0, i);
            }
            x.setMan(0, 0, 5);
            x.cross(0, one);
            int first = one == 2 ? 1 : 2;
            mindIs(x, "without " + one, 0, first, one == 0 ? 1 : 0);
        }
    }

    /** The last MAN, too, loses any one of eight faces, the last of all among them. */
    private static void paidForgetsAnyOfEight() {
        for (int one = 0; one < 8; one++) {
            FourthFace x = Due.withPeople(8);
            for (int man = 0; man < 4; man++) {
                x.man(19, 0);
            }
            for (int i = 7; i >= 0; i--) {
                Scene.carryOverAndBack(x, 3, i);
            }
            x.setMan(3, 0, 5);
            x.setPerson(one, 1, 9);
            due.is("FARE 5 is paid", x.cross(3, one), 5);
            int[] left = new int[7];
            for (int i = 0; i < 7; i++) {
                left[i] = i < one ? i : i + 1;
            }
            mindIs(x, "without " + one, 3, left);
        }
    }

    private static void aGossipIsHeardByAllThere() {
        FourthFace x = Due.withPeople(2);
        for (int man = 0; man < 4; man++) {
            x.man(man == 2 ? 40 : 0, man == 2 ? 0 : 1);
        }
        x.cross(2, 1);
        for (int man = 0; man < 4; man++) {
            mindIs(x, "all four are there", man, 1);
        }
        due.is("four know", x.personIs(1, 2), 4);
        due.is("none knows", x.personIs(0, 2), 0);
        x.cross(2, 1);
        due.is("none is there now", x.manIs(0, 2) + x.manIs(1, 2) + x.manIs(3, 2), 3);
        x.cross(2, 0);
        mindIs(x, "his own", 2, 0, 1);
        mindIs(x, "the first", 0, 0, 1);
        mindIs(x, "the last", 3, 0, 1);
    }

    private static void theBookAtItsEnd() {
        FourthFace x = Due.withPeople(2);
        x.man(0, 0);
        x.cross(0, 1);
        x.cross(0, 1);
        for (int crossings = 2; crossings < 23; crossings++) {
            x.cross(0, 0);
        }
        due.is("23", x.count(10), 23);
        due.is("the 23rd back", x.book(22), 1);
        due.is("no 24th", x.book(23), Due.NONE);
        x.cross(0, 0);
        due.is("24", x.count(10), 24);
        due.is("the 24th back", x.book(23), 1);
        due.is("no 25th", x.book(24), Due.NONE);
        x.cross(0, 0);
        due.is("24 of 25", x.count(10), 24);
        due.is("the second is the oldest now", x.book(23), 1);
        x.cross(0, 0);
        due.is("and gone", x.book(23), 0);
        due.is("no 25th ever", x.book(24), Due.NONE);
    }

    private static void heapsOfNoneAndAll() {
        FourthFace x = Due.withPeople(8);
        for (int man = 0; man < 4; man++) {
            x.man(10, 0);
        }
        for (int one = 0; one < 8; one++) {
            due.is("whom none knows is a heap alone", x.personIs(one, 3), one);
        }
        // 7 5, 5 3, 3 1, 1 6: one heap by way of all four men, the last asked first.
        int[][] pairs = {{1, 6}, {3, 1}, {5, 3}, {7, 5}};
        for (int man = 0; man < 4; man++) {
            Scene.carryOverAndBack(x, man, pairs[man][0]);
            Scene.carryOverAndBack(x, man, pairs[man][1]);
        }
        int[] least = {0, 1, 2, 1, 4, 1, 1, 1};
        for (int one = 0; one < 8; one++) {
            due.is("the heap of " + one, x.personIs(one, 3), least[one]);
        }
        x.debt(7, 6, 1);
        x.debt(6, 7, 1);
        x.debt(7, 0, 1);
        x.debt(2, 4, 1);
        due.is("from one end to the other", x.count(4), 2);
        x.forget(2);
        due.is("cut in the midst", x.count(4), 0);
        due.is("7 with 5 alone", x.personIs(7, 3), 5);
    }
}
