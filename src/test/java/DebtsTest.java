/** Promises 18 to 21: debts, what they hold by, what a crossing loses. */
public final class DebtsTest {
    private static final Due due = new Due("DebtsTest");

    public static void main(String[] args) {
        debts();
        wrongDebts();
        ofADebt();
        holding();
        paying();
        payingInPart();
        payingMoreThanOneMayHave();
        thoseBehindMoveUp();
        loses();
        losesByGossip();
        due.close();
    }

    private static void debts() {
        FourthFace x = Due.withPeople(3);
        for (int i = 0; i < 8; i++) {
            due.is("debt " + i, x.debt(0, 2, 1 + i), i);
        }
        due.is("a ninth", x.debt(0, 1, 1), Due.FULL);
        due.is("a ninth to oneself", x.debt(0, 0, 1), Due.BEYOND);
        due.is("count(3)", x.count(3), 8);
    }

    private static void wrongDebts() {
        FourthFace x = Due.withPeople(3);
        due.is("to oneself", x.debt(1, 1, 5), Due.BEYOND);
        due.is("who", x.debt(3, 1, 5), Due.BEYOND);
        due.is("who below", x.debt(-1, 1, 5), Due.BEYOND);
        due.is("whom", x.debt(0, 3, 5), Due.BEYOND);
        due.is("whom below", x.debt(0, -1, 5), Due.BEYOND);
        due.is("no coins", x.debt(0, 1, 0), Due.BEYOND);
        due.is("coins below", x.debt(0, 1, -1), Due.BEYOND);
        due.is("1000 coins", x.debt(0, 1, 1000), Due.BEYOND);
        due.is("none came", x.count(3), 0);
        due.is("999 coins", x.debt(0, 1, 999), 0);
        due.is("the other way", x.debt(1, 0, 1), 1);
        due.is("the same again", x.debt(0, 1, 999), 2);
    }

    private static void ofADebt() {
        FourthFace x = Scene.known(3, 2);
        x.debt(1, 2, 7);
        x.debt(1, 0, 8);
        due.is("who", x.debtIs(0, 0), 1);
        due.is("whom", x.debtIs(0, 1), 2);
        due.is("coins", x.debtIs(0, 2), 7);
        due.is("doesn't hold", x.debtIs(0, 3), 0);
        due.is("holds", x.debtIs(1, 3), 1);
        due.is("what 4", x.debtIs(1, 4), Due.BEYOND);
        due.is("what -1", x.debtIs(1, -1), Due.BEYOND);
        due.is("no such debt", x.debtIs(2, 0), Due.BEYOND);
        due.is("no such debt below", x.debtIs(-1, 0), Due.BEYOND);
    }

    private static void holding() {
        FourthFace x = Due.withPeople(6);
        x.man(0, 0);
        x.man(0, 0);
        x.man(0, 0);
        x.debt(0, 5, 1);
        x.debt(1, 2, 1);
        x.debt(3, 4, 1);
        int[][] rides = {{0, 0}, {0, 1}, {1, 2}, {1, 5}};
        for (int[] ride : rides) {
            x.cross(ride[0], ride[1]);
            x.cross(ride[0], ride[1]);
        }
        due.is("two heaps of two, no debt within", x.count(4), 0);
        x.cross(2, 1);
        x.cross(2, 1);
        due.is("0 and 1, 2 and 5, and 1 alone", x.count(4), 0);
        x.cross(2, 5);
        x.cross(2, 5);
        due.is("one heap by way of a third man", x.count(4), 2);
        due.is("0 to 5, whom no one man knows both", x.debtIs(0, 3), 1);
        due.is("1 to 2", x.debtIs(1, 3), 1);
        due.is("3 to 4, whom none knows", x.debtIs(2, 3), 0);
        x.forget(2);
        due.is("forgotten, none holds", x.count(4), 0);
    }

    private static void paying() {
        FourthFace x = Scene.known(2, 2);
        x.debt(0, 1, 15);
        due.is("paid", x.pay(0), 15);
        due.is("who owed", x.personIs(0, 1), 5);
        due.is("who was owed", x.personIs(1, 1), 35);
        due.is("gone", x.count(3), 0);
        due.is("pay(0)", x.pay(0), Due.BEYOND);
        due.is("pay(-1)", x.pay(-1), Due.BEYOND);
        x.debt(0, 1, 1);
        x.forget(0);
        due.is("it doesn't hold", x.pay(0), Due.STATE);
        due.is("it stays", x.debtIs(0, 2), 1);
    }

    private static void payingInPart() {
        FourthFace x = Scene.known(2, 2);
        x.debt(1, 0, 50);
        due.is("as far as coins go", x.pay(0), 20);
        due.is("less", x.debtIs(0, 2), 30);
        due.is("no coins", x.personIs(1, 1), 0);
        due.is("40 there", x.personIs(0, 1), 40);
        due.is("who owes has none", x.pay(0), Due.STATE);
        x.setPerson(1, 1, 30);
        due.is("all of it", x.pay(0), 30);
        due.is("gone", x.count(3), 0);
    }

    private static void payingMoreThanOneMayHave() {
        FourthFace x = Scene.known(2, 2);
        x.setPerson(0, 1, 500);
        x.setPerson(1, 1, 9990);
        x.debt(0, 1, 30);
        due.is("paid", x.pay(0), 30);
        due.is("9999 at most", x.personIs(1, 1), 9999);
        due.is("what is more is lost", x.personIs(0, 1), 470);
        due.is("and not owed any more", x.count(3), 0);
    }

    private static void thoseBehindMoveUp() {
        FourthFace x = Scene.known(4, 4);
        x.debt(0, 1, 1);
        x.debt(1, 2, 2);
        x.debt(2, 3, 3);
        due.is("the one amid", x.pay(1), 2);
        due.is("two are left", x.count(3), 2);
        due.is("the first stays", x.debtIs(0, 2), 1);
        due.is("the last is second: who", x.debtIs(1, 0), 2);
        due.is("whom", x.debtIs(1, 1), 3);
        due.is("coins", x.debtIs(1, 2), 3);
        due.is("none third", x.debtIs(2, 0), Due.BEYOND);
        due.is("a new one is last", x.debt(3, 0, 9), 2);
    }

    private static void loses() {
        FourthFace x = Due.withPeople(5);
        x.man(0, 0);
        for (int i = 0; i < 3; i++) {
            x.cross(0, i);
            x.cross(0, i);
        }
        x.debt(0, 1, 1);
        x.debt(2, 0, 1);
        x.debt(1, 2, 1);
        x.debt(3, 2, 1);
        x.debt(3, 4, 1);
        due.is("three hold", x.count(4), 3);
        due.is("3 puts out 0: two lost, one come", x.loses(0, 3), 1);
        due.is("4 puts out 0: two lost", x.loses(0, 4), 2);
        due.is("1 puts out none", x.loses(0, 1), 0);
        due.is("nothing came of it", x.count(4) * 100 + x.count(2) * 10 + x.manIs(0, 7), 362);
        due.is("who knows 3", x.personIs(3, 2), 0);
        due.is("no such man", x.loses(1, 0), Due.BEYOND);
        due.is("no such man below", x.loses(-1, 0), Due.BEYOND);
        due.is("no such one", x.loses(0, 5), Due.BEYOND);
        due.is("no such one below", x.loses(0, -1), Due.BEYOND);
        x.setPerson(3, 0, 1);
        due.is("on another bank", x.loses(0, 3), Due.STATE);
    }

    private static void losesByGossip() {
        FourthFace x = Due.withPeople(3);
        x.man(0, 0);
        x.man(45, 0);
        x.cross(0, 0);
        x.debt(0, 1, 5);
        x.debt(1, 2, 5);
        due.is("gossip brings 0 and 1 together", x.loses(1, 1), -1);
        due.is("2 none", x.loses(1, 2), 0);
        x.setMan(1, 0, 1);
        due.is("without gossip nothing", x.loses(1, 1), 0);
        due.is("no debt holds now", x.count(4), 0);
    }
}
