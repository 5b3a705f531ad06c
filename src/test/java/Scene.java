import java.util.ArrayList;
import java.util.List;

/** Objects in the midst of their work, and all that can be seen of one: two that are seen alike hold the same. */
final class Scene {
    private Scene() {
    }

    /** Three people, three men, an image, debts, texts, bytes on the tape, numbers that wait, a trace, sheets. */
    static FourthFace busy() {
        FourthFace x = Due.withPeople(2);
        x.person(1);
        x.man(12, 0);
        x.man(64, 1);
        x.man(0, 0);
        Due.text(x, 0, "p+1");
        Due.text(x, 1, "m+k*2");
        x.cross(0, 1);
        Due.feed(x, "m");
        x.tell(2);
        x.image();
        x.cross(0, 1);
        x.cross(0, 0);
        x.cross(1, 2);
        x.alone(1);
        x.setPerson(1, 1, 0);
        x.debt(0, 1, 30);
        x.debt(0, 2, 5);
        x.debt(1, 0, 8);
        Due.feed(x, "+2");
        x.tell(1);
        x.seed(99);
        x.voice(0, 2, 5);
        sheets(x);
        return x;
    }

    /** As much of all as there may be. */
    static FourthFace full() {
        FourthFace x = Due.withPeople(8);
        for (int man = 0; man < 4; man++) {
            x.man(15, 0);
        }
        for (int i = 0; i < 13; i++) {
            x.cross(0, i % 8);
            x.cross(0, i % 8);
        }
        for (int debt = 0; debt < 8; debt++) {
            x.debt(debt, (debt + 1) % 8, 900 + debt);
        }
        fillTape(x);
        for (int i = 0; i < 24; i++) {
            x.tell(i % 8);
        }
        x.image();
        sheets(x);
        return x;
    }

    /** The text 10+1+1 .. +1 of 60 bytes, which is 39. */
    static void fillTape(FourthFace x) {
        x.feed('1' + ('0' << 8) + ('+' << 16) + ((long) '1' << 24), 4);
        for (int i = 0; i < 7; i++) {
            x.feed(0x312B312B312B312BL, 8);
        }
    }

    /** TURN is so much; one man and two people, who all may be on either bank. */
    static FourthFace late(int turn) {
        FourthFace x = Due.withPeople(2);
        x.man(15, 0);
        for (int left = turn; left > 0; left -= 60) {
            x.draws(Math.min(left, 60));
        }
        x.setMan(0, 2, 0);
        x.setPerson(0, 0, 0);
        x.setPerson(1, 0, 1);
        return x;
    }

    /** The first faces of man 0 and zeros, on a sheet of each of the bits; sheet 3 is missing. */
    private static void sheets(FourthFace x) {
        int[] bits = {8, 16, 32};
        for (int sheet = 0; sheet < 3; sheet++) {
            x.sheet(sheet, bits[sheet], 2 + sheet);
            x.put(sheet, 0, x.manIs(0, 7));
            x.put(sheet, 1, x.manIs(0, 8));
        }
    }

    static void sheetOf(FourthFace x, int sheet, int bits, int... numbers) {
        x.sheet(sheet, bits, numbers.length);
        for (int i = 0; i < numbers.length; i++) {
            x.put(sheet, i, numbers[i]);
        }
    }

    static void carryOverAndBack(FourthFace x, int man, int person) {
        x.cross(man, person);
        x.cross(man, person);
    }

    /** Man 0 keeps eight and knows so many of people, the latest the highest, all back on bank 0; their coins 20 again. */
    static FourthFace known(int people, int knownOnes) {
        FourthFace x = Due.withPeople(people);
        x.man(15, 0);
        for (int i = 0; i < knownOnes; i++) {
            carryOverAndBack(x, 0, i);
            x.setPerson(i, 1, 20);
        }
        return x;
    }

    /** How often each ERROR was told, by k. */
    static int[] told(FourthFace x) {
        int[] told = new int[7];
        for (int k = 1; k <= 6; k++) {
            told[k] = x.told(k);
        }
        return told;
    }

    /** All but what told() tells; the object is used up by it. */
    static List<Integer> seen(FourthFace x) {
        List<Integer> seen = new ArrayList<>();
        look(x, seen);
        for (int i = 0; i < x.count(8); i++) {
            seen.add(x.body(i));
        }
        lookAtSheets(x, seen);
        useUp(x, seen);
        seen.add(x.restore());
        look(x, seen);
        useUp(x, seen);
        seen.add(x.image());
        return seen;
    }

    private static void look(FourthFace x, List<Integer> seen) {
        for (int what = 0; what <= 10; what++) {
            seen.add(x.count(what));
        }
        for (int person = 0; person < x.count(0); person++) {
            for (int what = 0; what <= 3; what++) {
                seen.add(x.personIs(person, what));
            }
        }
        for (int man = 0; man < x.count(1); man++) {
            for (int what = 0; what <= 6 + x.manIs(man, 6); what++) {
                seen.add(x.manIs(man, what));
            }
        }
        for (int debt = 0; debt < x.count(3); debt++) {
            for (int what = 0; what <= 2; what++) {
                seen.add(x.debtIs(debt, what));
            }
        }
        for (int i = 0; i < x.count(10); i++) {
            seen.add(x.book(i));
        }
    }

    /** Their bits by moves of no numbers, their numbers by a mind, how many they are by the first that can't be put. */
    private static void lookAtSheets(FourthFace x, List<Integer> seen) {
        for (int sheet = 0; sheet < 4; sheet++) {
            seen.add(x.judge(sheet, 0));
            for (int other = 0; other < sheet; other++) {
                seen.add(x.move(sheet, 0, other, 0, 0));
            }
            int size = 0;
            while (size < 24 && x.put(sheet, size, 0) == 1) {
                size++;
            }
            seen.add(size);
        }
    }

    /** What waits and what is on the tape is seen by what comes of it. */
    private static void useUp(FourthFace x, List<Integer> seen) {
        seen.add(x.check(0));
        seen.add(x.text(1));
        for (int man = 0; man < x.count(1); man++) {
            seen.add(x.manIs(man, 4));
            seen.add(x.manIs(man, 5));
        }
    }
}
