/** Promises 22 to 26: stranger, way, memory, hearsay, rows. */
public final class WhatWouldBeTest {
    private static final Due due = new Due("WhatWouldBeTest");

    public static void main(String[] args) {
        strangers();
        strangersOnTheOtherBank();
        strangersToAPaidMan();
        strangersByATextOfTurns();
        wrongStrangers();
        ways();
        waysKeepTheFirstRow();
        waysOfMenWhoDontKnow();
        waysWithGossip();
        waysAreAsIfOneHadCoins();
        wrongWays();
        memories();
        memoriesWithoutOtherFaces();
        hearsay();
        rows();
        rowsOfManyKinds();
        rowsFromTheImage();
        due.close();
    }

    private static void strangers() {
        FourthFace x = Due.withPeople(5);
        x.man(0, 0);
        due.is("whom he doesn't know, by 0", x.stranger(0, 0, 0), 0);
        Scene.carryOverAndBack(x, 0, 0);
        due.is("known, by 0", x.stranger(0, 0, 0), Due.NONE);
        // Three new faces must come, and an even number of crossings brings him back.
        due.is("by 3", x.stranger(0, 0, 3), Due.NONE);
        due.is("by 4 it takes four", x.stranger(0, 0, 4), Due.NONE);
        // All others are on bank 0, so each odd crossing is a new face and each even one the same back: two faces by 4.
        x.setPerson(1, 0, 1);
        due.is("one waits over there", x.stranger(0, 0, 4), 4);
        due.is("not by 3", x.stranger(0, 0, 3), Due.NONE);
        due.is("nothing came of it", x.count(2) * 100 + x.manIs(0, 2) * 10 + x.manIs(0, 6), 201);
        Scene.carryOverAndBack(x, 0, 2);
        due.is("one face less to come", x.stranger(0, 0, 4), 2);
        due.is("by 2, too", x.stranger(0, 0, 2), 2);
        due.is("not by 1", x.stranger(0, 0, 1), Due.NONE);
        due.is("told(2)", x.told(2), 5);
    }

    private static void strangersOnTheOtherBank() {
        FourthFace x = Due.withPeople(3);
        x.man(60, 0);
        x.setPerson(0, 0, 1);
        due.is("he must come over", x.stranger(0, 0, 4), 1);
        due.is("by 0 he can't", x.stranger(0, 0, 0), Due.NONE);
        x.setPerson(1, 0, 1);
        x.setPerson(2, 0, 1);
        due.is("nobody to hire", x.stranger(0, 0, 4), Due.NONE);
        FourthFace y = Due.withPeople(1);
        y.man(30, 1);
        due.is("the one itself can't be hired", y.stranger(0, 0, 4), Due.NONE);
    }

    private static void strangersToAPaidMan() {
        // Keeps 3 and knows 2, 1, 0: to lose 0 a new face must come; whoever pays is forgotten instead.
        FourthFace x = Due.withPeople(5);
        x.man(0, 0);
        Scene.carryOverAndBack(x, 0, 0);
        Scene.carryOverAndBack(x, 0, 1);
        Scene.carryOverAndBack(x, 0, 2);
        x.setPerson(3, 0, 1);
        x.setPerson(4, 0, 1);
        due.is("a MAN: one over, one back", x.stranger(0, 0, 4), 2);
        x.setMan(0, 0, 5);
        due.is("a PAID one: 1 pays and is gone, 3 comes for it", x.stranger(0, 0, 2), Due.NONE);
        due.is("nor by four: whoever is hired to go over pays", x.stranger(0, 0, 4), Due.NONE);
        x.setPerson(1, 1, 0);
        due.is("1 can't pay, so 3 puts out 0", x.stranger(0, 0, 4), 2);
    }

    private static void strangersByATextOfTurns() {
        FourthFace x = Due.withPeople(2);
        x.man(60, 0);
        Due.text(x, 0, "8-t*2");
        Scene.carryOverAndBack(x, 0, 0);
        due.is("at turn 2 he keeps 4", x.manIs(0, 4), 4);
        // Behind turn 3 he keeps 2 faces, 1 and 0; a crossing at turn 4 leaves him none.
        due.is("at turn 3 he keeps 2, at turn 4 none", x.stranger(0, 0, 4), 4);
    }

    private static void wrongStrangers() {
        FourthFace x = Due.withPeople(2);
        x.man(0, 0);
        due.is("n 5", x.stranger(0, 0, 5), Due.BEYOND);
        due.is("n -1", x.stranger(0, 0, -1), Due.BEYOND);
        due.is("no such one", x.stranger(2, 0, 0), Due.BEYOND);
        due.is("no such one below", x.stranger(-1, 0, 0), Due.BEYOND);
        due.is("no such man", x.stranger(0, 1, 0), Due.BEYOND);
        due.is("no such man below", x.stranger(0, -1, 0), Due.BEYOND);
    }

    private static void rowIs(FourthFace x, String call, int person, int coins, int... men) {
        due.is(call + ": coins", x.way(person, men.length, -1), coins);
        for (int i = 0; i < men.length; i++) {
            due.is(call + ": man " + i, x.way(person, men.length, i), men[i]);
        }
    }

    private static void ways() {
        FourthFace x = Due.withPeople(1);
        x.man(0, 0);
        x.man(5, 0);
        x.man(2, 1);
        rowIs(x, "none", 0, 0);
        rowIs(x, "one over", 0, 0, 0);
        rowIs(x, "over and back", 0, 0, 0, 2);
        // Each man is free once; what is left goes with 0, for 2 each: as a row 0 early is first.
        rowIs(x, "twice", 0, 2, 0, 0, 1, 2);
        rowIs(x, "thrice", 0, 6, 0, 0, 0, 0, 1, 2);
        due.is("nothing came of it", x.count(2) + x.manIs(0, 2) + x.personIs(0, 0), 0);
    }

    private static void waysKeepTheFirstRow() {
        FourthFace x = Due.withPeople(1);
        x.man(1, 0);
        x.man(1, 0);
        x.man(1, 0);
        rowIs(x, "of several the first", 0, 3, 0, 0);
        rowIs(x, "of three", 0, 3, 0, 0, 1);
        FourthFace y = Due.withPeople(1);
        y.man(2, 0);
        y.man(1, 0);
        rowIs(y, "the cheaper second man", 0, 3, 1, 1);
    }

    private static void waysOfMenWhoDontKnow() {
        FourthFace x = Due.withPeople(1);
        x.man(50, 0);
        x.man(30, 0);
        // Man 1 keeps no face and never takes any; man 0 is free as long as he is a stranger.
        rowIs(x, "a BLIND one is free", 0, 0, 1, 1, 0);
        x.setMan(1, 2, 1);
        rowIs(x, "a PAID one takes 1 each second time", 0, 0, 0, 1);
        x.setMan(1, 0, 0);
        x.setMan(1, 1, 9);
        x.setMan(0, 1, 2);
        rowIs(x, "over 0, back 0 for 2 and forgotten, over 0, back 1", 0, 2, 0, 0, 0, 1);
    }

    private static void waysWithGossip() {
        FourthFace x = Due.withPeople(1);
        x.man(40, 0);
        x.man(0, 1);
        x.man(9, 1);
        due.is("over with a gossip, all there know", x.way(0, 2, -1), 2);
        due.is("back with the cheapest", x.way(0, 2, 1), 1);
    }

    private static void waysAreAsIfOneHadCoins() {
        FourthFace x = Due.withPeople(1);
        x.man(9, 0);
        x.setPerson(0, 1, 0);
        rowIs(x, "as if one had 9999", 0, 11, 0, 0);
        due.is("without any", x.personIs(0, 1), 0);
        x.setMan(0, 0, 5);
        // Fare 5: over free, back paid and forgotten, over free again.
        rowIs(x, "a PAID one forgets", 0, 5, 0, 0, 0);
        rowIs(x, "six", 0, 15, 0, 0, 0, 0, 0, 0);
    }

    private static void wrongWays() {
        FourthFace x = Due.withPeople(2);
        due.is("no men", x.way(0, 1, -1), Due.NONE);
        due.is("no men, no crossings", x.way(0, 0, -1), 0);
        x.man(0, 1);
        due.is("no man on the bank", x.way(0, 1, -1), Due.NONE);
        due.is("its first", x.way(0, 1, 0), Due.NONE);
        due.is("n 7", x.way(0, 7, -1), Due.BEYOND);
        due.is("n -1", x.way(0, -1, -1), Due.BEYOND);
        due.is("i -2", x.way(0, 3, -2), Due.BEYOND);
        due.is("i 3 of 3", x.way(0, 3, 3), Due.BEYOND);
        due.is("i 0 of 0", x.way(0, 0, 0), Due.BEYOND);
        due.is("no such one", x.way(2, 0, -1), Due.BEYOND);
        due.is("no such one below", x.way(-1, 0, -1), Due.BEYOND);
    }

    private static void memories() {
        FourthFace x = Due.withPeople(8);
        x.man(15, 0);
        x.man(0, 0);
        for (int i = 0; i < 8; i++) {
            Scene.carryOverAndBack(x, 0, i);
        }
        due.is("the latest", x.memory(0, 7), 1);
        due.is("the one ahead", x.memory(0, 6), 2);
        due.is("the first of eight", x.memory(0, 0), 8);
        due.is("another man", x.memory(1, 0), Due.NONE);
        Scene.carryOverAndBack(x, 0, 0);
        due.is("it came again", x.memory(0, 0), 1);
        due.is("the others one later", x.memory(0, 1), 8);
        // The book has 24 crossings, 12 rides over and back: 2 to 7, 0, and five of another man.
        for (int i = 0; i < 5; i++) {
            due.is("1 is in the book still", x.memory(0, 1), 8);
            Scene.carryOverAndBack(x, 1, 7);
        }
        due.is("1 is in the book no more", x.memory(0, 1), Due.NONE);
        due.is("2 is the oldest", x.memory(0, 2), 7);
        due.is("no such man", x.memory(2, 0), Due.BEYOND);
        due.is("no such man below", x.memory(-1, 0), Due.BEYOND);
        due.is("no such one", x.memory(0, 8), Due.BEYOND);
        due.is("no such one below", x.memory(0, -1), Due.BEYOND);
    }

    private static void memoriesWithoutOtherFaces() {
        FourthFace x = Due.withPeople(3);
        x.man(0, 0);
        x.man(40, 0);
        Scene.carryOverAndBack(x, 0, 0);
        Scene.carryOverAndBack(x, 1, 1);
        due.is("he heard of 1", x.manIs(0, 7), 1);
        due.is("hearing is no crossing of his", x.memory(0, 0), 1);
        due.is("1 he never carried", x.memory(0, 1), Due.NONE);
        x.setMan(0, 0, 5);
        Scene.carryOverAndBack(x, 0, 2);
        due.is("paid and forgotten", x.personIs(2, 2), 0);
        due.is("whatever was paid", x.memory(0, 2), 1);
        x.forget(0);
        due.is("whatever he forgot", x.memory(0, 0), 2);
        x.setMan(0, 0, 3);
        due.is("of whatever kind", x.memory(0, 0), 2);
    }

    private static void hearsay() {
        FourthFace x = Due.withPeople(3);
        x.man(0, 0);
        x.man(40, 0);
        x.man(0, 1);
        x.man(30, 1);
        due.is("he alone", x.hearsay(0, 0), 1);
        due.is("a gossip, and who is there", x.hearsay(1, 0), 6);
        Scene.carryOverAndBack(x, 0, 0);
        due.is("who knew the one ahead, too", x.hearsay(1, 0), 7);
        x.setMan(0, 0, 5);
        due.is("a PAID one, paid, won't know", x.hearsay(0, 0), 0);
        x.setPerson(0, 1, 0);
        due.is("not paid, he will", x.hearsay(0, 0), 1);
        x.setMan(0, 0, 3);
        due.is("a BLIND one won't", x.hearsay(0, 1), 0);
        due.is("nothing came of it", x.count(2) * 10 + x.manIs(1, 6), 20);
        x.setPerson(2, 0, 1);
        due.is("on another bank", x.hearsay(0, 2), Due.STATE);
        due.is("no such man", x.hearsay(4, 0), Due.BEYOND);
        due.is("no such man below", x.hearsay(-1, 0), Due.BEYOND);
        due.is("no such one", x.hearsay(0, 3), Due.BEYOND);
        due.is("no such one below", x.hearsay(0, -1), Due.BEYOND);
    }

    private static void rows() {
        FourthFace x = Due.withPeople(3);
        x.man(0, 0);
        due.is("no image", x.rows(0, 0), Due.NONE);
        due.is("no image, n 4", x.rows(4, 0), Due.BEYOND);
        x.image();
        due.is("none, of 0", x.rows(0, 0), 1);
        due.is("who, of 0", x.rows(0, 1), 0);
        due.is("none leads there by 1", x.rows(1, 0), 0);
        due.is("who, of none", x.rows(1, 1), 0);
        x.setPerson(1, 0, 1);
        x.cross(0, 0);
        x.cross(0, 1);
        due.is("by 0", x.rows(0, 0), 0);
        // From the image all are on bank 0, so 1 behind 0 takes 0 back first: 0, 0, 1 alone.
        due.is("by 2", x.rows(2, 0), 0);
        due.is("by 3", x.rows(3, 0), 1);
        due.is("who", x.rows(3, 1), 3);
        due.is("n 4", x.rows(4, 0), Due.BEYOND);
        due.is("n -1", x.rows(-1, 0), Due.BEYOND);
        due.is("what 2", x.rows(0, 2), Due.BEYOND);
        due.is("what -1", x.rows(0, -1), Due.BEYOND);
        x.man(0, 0);
        due.is("not as many men", x.rows(3, 0), 0);
        due.is("nothing came of it", x.count(2), 2);
    }

    private static void rowsOfManyKinds() {
        FourthFace x = Due.withPeople(8);
        x.man(30, 0);
        x.image();
        // A BLIND one's mind stays empty: 8 over, the same back, 8 over.
        due.is("8", x.rows(1, 0), 8);
        due.is("8 * 1", x.rows(2, 0), 8);
        due.is("8 * 1 * 8", x.rows(3, 0), 64);
        due.is("all of them", x.rows(3, 1), 255);
        FourthFace y = Due.withPeople(2);
        y.man(40, 0);
        y.man(0, 1);
        y.man(0, 1);
        y.image();
        y.cross(0, 1);
        due.is("one gossip's crossing mends three minds", y.rows(1, 0), 1);
        due.is("who", y.rows(1, 1), 2);
        // Over, and back with any of the three who all know; or with the other one ahead: then 0 stays in a mind.
        due.is("there and back by any of them", y.rows(2, 0), 3);
        due.is("who by 2", y.rows(2, 1), 2);
    }

    private static void rowsFromTheImage() {
        FourthFace x = Due.withPeople(2);
        x.man(60, 0);
        Due.text(x, 0, "2");
        x.image();
        x.cross(0, 1);
        x.untell(0);
        x.setMan(0, 1, 9);
        x.setPerson(0, 1, 0);
        x.person(0);
        due.is("by the text of the image", x.rows(1, 0), 1);
        due.is("who", x.rows(1, 1), 2);
        x.forget(0);
        x.cross(0, 1);
        x.setPerson(2, 0, 0);
        x.cross(0, 2);
        due.is("one whom the image doesn't have", x.rows(2, 0), 0);
        due.is("nor by 3", x.rows(3, 0), 0);
    }
}
