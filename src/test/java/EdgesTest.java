/**
 * Promise by promise: the least and the most that each act takes, what is empty and what is full. (What each act refuses
 * next to these: RefusalsTest. The boundaries of the Terms: TermsTest.)
 */
public final class EdgesTest {
    private static final Due due = new Due("EdgesTest");
    private static final int MOST = Integer.MAX_VALUE;
    private static final int LEAST = Integer.MIN_VALUE;

    public static void main(String[] args) {
        allAsAtFirst();
        peopleAndMen();
        toldAnew();
        forgetting();
        feeding();
        textsOfSixtyBytes();
        numbersAndDepth();
        bytesOfAllKinds();
        faultsAtEachPlace();
        intsThatWrap();
        truth();
        untelling();
        aPersonsCrossing();
        draws();
        drawsOfAnySeed();
        seeds();
        theBook();
        debts();
        paying();
        payingToTheMost();
        losing();
        strangers();
        strangersFirstAndLast();
        ways();
        waysWithMostCoins();
        memories();
        memoriesOfTheBooksEnds();
        hearsay();
        rows();
        rowsToldAnew();
        voices();
        voicesThatWrap();
        sheets();
        moves();
        crossingsOfASheet();
        judging();
        imagesOfNoneAndAll();
        theTapeOfAnImage();
        telling();
        checking();
        counts();
        due.close();
    }

    private static void allAsAtFirst() {
        FourthFace x = new FourthFace();
        due.is("no people", x.personIs(0, 0), Due.BEYOND);
        due.is("no men", x.manIs(0, 0), Due.BEYOND);
        due.is("no debts", x.debtIs(0, 0), Due.BEYOND);
        due.is("no image", x.rows(0, 0), Due.NONE);
        due.is("no fault of an empty tape but its end", x.text(0), -10);
        for (int sheet = 0; sheet < 4; sheet++) {
            due.is("sheet " + sheet + " is missing", x.crossings(sheet), Due.NONE);
        }
        due.is("none waits", x.tell(0), 1);
        due.is("z", x.seed(0), 1);
        due.is("the first image", x.image(), 1);
        x.man(64, 0);
        due.is("no TEXT of KEEPS", x.manIs(0, 4), 4);
        due.is("no TEXT of FARE", x.manIs(0, 5), 4);
    }

    private static void peopleAndMen() {
        FourthFace x = new FourthFace();
        due.is("bank 0", x.person(0), 0);
        due.is("bank 1", x.person(1), 1);
        due.is("0 is there", x.personIs(0, 0), 0);
        due.is("1 is there", x.personIs(1, 0), 1);
        due.is("heap, the last what", x.personIs(1, 3), 1);
        due.is("km 0", x.man(0, 0), 0);
        due.is("km 69", x.man(69, 1), 1);
        due.is("km 9", x.man(9, 0), 2);
        due.is("km 60", x.man(60, 1), 3);
        int[] kinds = {0, 6, 0, 6};
        int[] digits = {0, 9, 9, 0};
        for (int man = 0; man < 4; man++) {
            due.is("KIND of " + man, x.manIs(man, 0), kinds[man]);
            due.is("m of " + man, x.manIs(man, 1), digits[man]);
            due.is("BANK of " + man, x.manIs(man, 2), man % 2);
            due.is("no face, the last what", x.manIs(man, 14), -1);
            due.is("as a MAN", x.as(man, 0), 0);
            due.is("as a TOLD one", x.as(man, 6), kinds[man] == 6 ? 0 : Due.KIND);
        }
        for (int i = 2; i < 8; i++) {
            due.is("one more", x.person(1), i);
        }
        due.is("the eighth", x.personIs(7, 1), 20);
        due.is("eight", x.count(0), 8);
        due.is("four", x.count(1), 4);
    }

    private static void toldAnew() {
        FourthFace x = Due.withPeople(8);
        for (int man = 0; man < 4; man++) {
            x.man(0, 0);
        }
        due.is("the most KIND of the last", x.setMan(3, 0, 6), 0);
        due.is("the most m", x.setMan(3, 1, 9), 0);
        due.is("the most BANK", x.setMan(3, 2, 1), 0);
        due.is("the least KIND", x.setMan(3, 0, 0), 6);
        due.is("the least m", x.setMan(3, 1, 0), 9);
        due.is("the least BANK", x.setMan(3, 2, 0), 1);
        due.is("the last one's BANK", x.setPerson(7, 0, 1), 0);
        due.is("and back", x.setPerson(7, 0, 0), 1);
        due.is("the most COINS", x.setPerson(7, 1, 9999), 20);
        due.is("the least COINS", x.setPerson(7, 1, 0), 9999);
        due.is("one coin", x.setPerson(7, 1, 1), 0);
        due.is("it is there", x.personIs(7, 1), 1);
        due.is("no ERROR", x.told(1), 0);
    }

    private static void forgetting() {
        for (int faces = 0; faces <= 8; faces++) {
            FourthFace x = Scene.known(8, faces);
            due.is("forgets " + faces, x.forget(0), faces);
            due.is("then none", x.forget(0), 0);
            due.is("none is first", x.manIs(0, 7), -1);
        }
    }

    private static void feeding() {
        for (int n = 1; n <= 8; n++) {
            FourthFace x = new FourthFace();
            due.is("of one word " + n, x.feed(-1L, n), n);
            due.is("of another " + n, x.feed(0L, n), 2 * n);
            due.is("there are", x.count(6), 2 * n);
        }
        FourthFace x = new FourthFace();
        for (int i = 1; i <= 60; i++) {
            due.is("byte " + i, x.feed('1', 1), i);
        }
        due.is("a 61st", x.feed('1', 1), Due.FULL);
        for (int n = 1; n <= 8; n++) {
            FourthFace y = new FourthFace();
            Scene.fillTape(y);
            y.text(0);
            for (int i = 0; i < 61 - n; i++) {
                y.feed('1', 1);
            }
            due.is("one too many of " + n, y.feed(0L, n), Due.FULL);
            due.is("as many as there were", y.count(6), 61 - n);
        }
        for (int n = 1; n <= 8; n++) {
            FourthFace y = new FourthFace();
            for (int i = 0; i < 60 - n; i++) {
                y.feed('1', 1);
            }
            due.is("just as many: " + n, y.feed(0L, n), 60);
        }
    }

    private static void textsOfSixtyBytes() {
        FourthFace x = new FourthFace();
        x.man(60, 0);
        Scene.fillTape(x);
        due.is("sixty bytes", x.count(6), 60);
        due.is("a TEXT of sixty bytes", x.text(1), 1);
        due.is("all of it is worked out", x.manIs(0, 5), 39);
        due.is("the tape is empty", x.count(6), 0);
        due.is("a TEXT of one byte", Due.text(x, 1, "7"), 1);
        due.is("it is worked out", x.manIs(0, 5), 7);
        due.is("a TEXT of no byte", x.text(1), -10);
        due.is("the one ahead stays", x.manIs(0, 5), 7);
        due.is("sixty digits", Due.text(x, 0, "1".repeat(60)), -14);
        due.is("the 60th byte is wrong", Due.text(x, 0, "1+".repeat(29) + "1!"), -69);
        due.is("the 60th byte lacks another", Due.text(x, 0, "1+".repeat(30)), -70);
        due.is("59 bytes, one lacks", Due.text(x, 0, "1+".repeat(29) + "("), -69);
        due.is("five ( of 60 bytes, none closed", Due.text(x, 0, "(((((" + "1+".repeat(27) + "1"), -70);
    }

    private static int value(String text) {
        FourthFace x = new FourthFace();
        x.man(60, 0);
        int answer = Due.text(x, 1, text);
        return answer == 1 ? x.manIs(0, 5) : answer;
    }

    private static void numbersAndDepth() {
        due.is("1 digit", value("9"), 9);
        due.is("2 digits", value("99"), 99);
        due.is("3 digits", value("100-99"), 1);
        due.is("4 digits", value("9999-9998"), 1);
        due.is("4 digits of 0", value("0000"), 0);
        due.is("4 digits, two of them 0", value("0098"), 98);
        due.is("5 digits", value("00001"), -14);
        due.is("5 digits behind a sign", value("1+12345"), -16);
        due.is("5 digits in (", value("(12345)"), -15);
        String[] open = {"", "(", "((", "(((", "((((", "(((((", "(((((("};
        for (int deep = 0; deep <= 6; deep++) {
            String text = open[deep] + "7" + ")".repeat(deep);
            due.is(text, value(text), deep <= 5 ? 7 : -15);
            String nots = "!".repeat(deep) + "7";
            due.is(nots, value(nots), deep > 5 ? -15 : deep == 0 ? 7 : 1 - deep % 2);
            String ended = open[deep] + "7";
            due.is(ended, value(ended), deep > 5 ? -15 : deep == 0 ? 7 : -10 - ended.length());
        }
        due.is("4 ( and one !", value("((((!0))))"), 1);
        due.is("4 ( and two !", value("((((!!0))))"), -15);
        due.is("4 ! and one (", value("!!!!(3)"), 1);
        due.is("4 ! and two (", value("!!!!((3))"), -15);
        due.is("five closed, five more, five more", value("(((((1)))))+!!!!!0+(((((1)))))"), 3);
        due.is("behind a closed ( under a !, one more", value("!((((1))))+1"), 1);
        due.is("a ! ends with what it is of", value("(((!1+!(0))))"), 1);
    }

    private static void bytesOfAllKinds() {
        String starts = "0123456789!(";
        for (int use = 0; use < 2; use++) {
            String names = use == 0 ? "mtp" : "mkb";
            for (int sign = 0; sign < 256; sign++) {
                FourthFace x = new FourthFace();
                x.feed(sign, 1);
                boolean goesOn = starts.indexOf(sign) >= 0 || names.indexOf(sign) >= 0;
                boolean whole = goesOn && sign != '!' && sign != '(';
                due.is("byte " + sign + " first, use " + use, x.text(use), whole ? 1 : goesOn ? -11 : -10);
                x.feed('7' + ((long) sign << 8), 2);
                boolean digit = sign >= '0' && sign <= '9';
                boolean joins = "|&<=>+-*/%".indexOf(sign) >= 0;
                due.is("byte " + sign + " behind 7, use " + use, x.text(use), digit ? 1 : joins ? -12 : -11);
            }
        }
    }

    private static void faultsAtEachPlace() {
        for (int place = 0; place < 60; place++) {
            FourthFace x = new FourthFace();
            String text = "1+".repeat(30).substring(0, place) + "?";
            due.is("fault at " + place, Due.text(x, 0, text), -10 - place);
            due.is("the tape is empty", x.count(6), 0);
            due.is("it is no ERROR", x.told(1), 0);
        }
        for (int bytes = 0; bytes <= 60; bytes++) {
            FourthFace x = new FourthFace();
            String text = "1+".repeat(30).substring(0, bytes);
            due.is(bytes + " bytes", Due.text(x, 0, text), bytes % 2 == 1 ? 1 : -10 - bytes);
        }
        String[] once = {"<", "=", ">"};
        for (String first : once) {
            for (String second : once) {
                due.is("one " + first, value("1" + first + "2"), first.equals("<") ? 1 : 0);
                due.is("no second one", value("1" + first + "2" + second + "3"), -13);
                due.is("a second one in (", value("(1" + first + "1)" + second + "9"), second.equals("<") ? 1 : 0);
                due.is("a second one behind &", value("1" + first + "2&1" + second + "2") >= 0 ? 1 : 0, 1);
                due.is("a second one behind |", value("1" + first + "2|1" + second + "2") >= 0 ? 1 : 0, 1);
            }
        }
    }

    private static void intsThatWrap() {
        String least = "(256*256*256*128)";
        String most = "(" + least + "-1)";
        due.is("the most is above 0", value(most + ">0"), 1);
        due.is("one more wraps", value(most + "+1<0"), 1);
        due.is("the least is below 0", value(least + "<0"), 1);
        due.is("one less wraps", value(least + "-1>0"), 1);
        due.is("0 less the least wraps", value("0-" + least + "<0"), 1);
        due.is("the least twice is 0", value(least + "*2"), 0);
        due.is("the most twice is -2", value(most + "*2+3"), 1);
        due.is("the most by the most", value(most + "*" + most), 1);
        due.is("the least by -1", value(least + "/(0-1)<0"), 1);
        due.is("the least by -1, the rest", value(least + "%(0-1)+7"), 7);
        due.is("the least by 0", value(least + "/0+7"), 7);
        due.is("the least by 0, the rest", value(least + "%0+7"), 7);
        due.is("0 by 0", value("0/0+0%0+7"), 7);
        due.is("7 by 0", value("7/0"), 0);
        due.is("7 by 0, the rest", value("7%0"), 0);
        due.is("7 by 1", value("7/1"), 7);
        due.is("7 by 1, the rest", value("7%1"), 0);
        due.is("-7 by 2, cut", value("(0-7)/2+9"), 6);
        due.is("-7 by 2, the rest", value("(0-7)%2+9"), 8);
        due.is("7 by -2, cut", value("7/(0-2)+9"), 6);
        due.is("7 by -2, the rest", value("7%(0-2)+9"), 10);
        due.is("-1 by 2, cut", value("(0-1)/2+9"), 9);
        due.is("what is behind a 1 is worked out, too", value("1|1/0"), 1);
        due.is("what is behind a 0 is worked out, too", value("0&1%0"), 0);
    }

    private static void truth() {
        String[] numbers = {"0", "1", "2", "(0-1)"};
        for (int a = 0; a < 4; a++) {
            for (int b = 0; b < 4; b++) {
                String ab = numbers[a] + "#" + numbers[b];
                due.is(ab + " |", value(ab.replace('#', '|')), a != 0 || b != 0 ? 1 : 0);
                due.is(ab + " &", value(ab.replace('#', '&')), a != 0 && b != 0 ? 1 : 0);
                int left = a == 3 ? -1 : a;
                int right = b == 3 ? -1 : b;
                due.is(ab + " <", value(ab.replace('#', '<')), left < right ? 1 : 0);
                due.is(ab + " =", value(ab.replace('#', '=')), left == right ? 1 : 0);
                due.is(ab + " >", value(ab.replace('#', '>')), left > right ? 1 : 0);
            }
            due.is("!" + numbers[a], value("!" + numbers[a]), a == 0 ? 1 : 0);
        }
    }

    private static void untelling() {
        for (int use = 0; use < 2; use++) {
            FourthFace x = new FourthFace();
            x.man(63, 0);
            due.is("there was none", x.untell(use), 0);
            due.is("there is one", Due.text(x, use, "0"), 1);
            due.is("it gives 0", x.manIs(0, 4 + use), 0);
            due.is("of the other use there is none", x.manIs(0, 5 - use), 3);
            due.is("there was one of it alone", x.untell(1 - use), 0);
            due.is("there was one", x.untell(use), 1);
            due.is("m again", x.manIs(0, 4 + use), 3);
            due.is("there is none any more", x.untell(use), 0);
        }
    }

    private static void aPersonsCrossing() {
        FourthFace x = Due.withPeople(8);
        for (int man = 0; man < 4; man++) {
            x.man(10, 0);
        }
        due.is("the last man, the last one", x.cross(3, 7), 0);
        due.is("the first man, the first one", x.cross(0, 0), 0);
        due.is("the book of both", x.book(1) * 100 + x.book(0), 3700);
        due.is("the last man again", x.cross(3, 7), 2);
        due.is("the last man alone", x.alone(3), 1);
        due.is("the first man alone", x.alone(0), 0);
    }

    private static void draws() {
        FourthFace x = new FourthFace();
        x.man(0, 0);
        due.is("one", x.draws(1), 1);
        due.is("sixty", x.draws(60), 61);
        due.is("none to carry: 61 draws alone", x.manIs(0, 2), 1);
        int z = 1;
        for (int i = 0; i < 61; i++) {
            z = z * 1103515245 + 12345;
        }
        due.is("one draw each", x.count(9), z);
    }

    /** z and draws of any seed, by longs that don't wrap. */
    private static void drawsOfAnySeed() {
        int[] seeds = {0, 1, -1, -5, MOST, LEAST, 255, 256, -256, 123456789, -123456789};
        for (int seed : seeds) {
            FourthFace x = new FourthFace();
            for (int i = 0; i < 5; i++) {
                x.person(0);
            }
            for (int i = 0; i < 3; i++) {
                x.man(10, 0);
            }
            x.seed(seed);
            long first = next(seed & 0xFFFFFFFFL);
            long second = next(first);
            due.is("TURN", x.draws(1), 1);
            due.is("who crosses by " + seed, x.book(0), first / 256 % 3 * 10 + second / 256 % 5);
            due.is("z behind it", x.count(9), (int) second);
        }
    }

    private static long next(long z) {
        return (z * 1103515245L + 12345L) % 4294967296L;
    }

    private static void seeds() {
        int[] seeds = {0, -1, MOST, LEAST, -1000000001, 1};
        FourthFace x = new FourthFace();
        int was = 1;
        for (int seed : seeds) {
            due.is("z was", x.seed(seed), was);
            due.is("z is", x.count(9), seed);
            was = seed;
        }
    }

    private static void theBook() {
        FourthFace x = Due.withPeople(8);
        x.man(0, 0);
        for (int crossings = 0; crossings <= 27; crossings++) {
            due.is("how many", x.count(10), Math.min(24, crossings));
            for (int i = 0; i < Math.min(24, crossings); i++) {
                due.is("back " + i + " of " + crossings, x.book(i), (crossings - 1 - i) / 2 % 8);
            }
            x.cross(0, crossings / 2 % 8);
        }
    }

    private static void debts() {
        FourthFace x = Due.withPeople(8);
        due.is("one coin, the first to the last", x.debt(0, 7, 1), 0);
        due.is("999 coins, the last to the first", x.debt(7, 0, 999), 1);
        for (int i = 2; i < 8; i++) {
            due.is("one more", x.debt(0, 1, 998), i);
        }
        due.is("who of the last", x.debtIs(7, 0), 0);
        due.is("holds, the last what", x.debtIs(7, 3), 0);
        due.is("coins of the first", x.debtIs(0, 2), 1);
        due.is("coins of the second", x.debtIs(1, 2), 999);
        due.is("eight", x.count(3), 8);
        due.is("none holds", x.count(4), 0);
    }

    private static void paying() {
        int[] has = {1, 29, 30, 31, 9999};
        for (int coins : has) {
            FourthFace x = Scene.known(2, 2);
            x.debt(0, 1, 30);
            x.setPerson(0, 1, coins);
            int paid = Math.min(coins, 30);
            due.is("paid of " + coins, x.pay(0), paid);
            due.is("left of " + coins, x.personIs(0, 1), coins - paid);
            due.is("come", x.personIs(1, 1), 20 + paid);
            due.is("gone at 0 alone", x.count(3), paid == 30 ? 0 : 1);
            due.is("that much less", x.debtIs(0, 2), paid == 30 ? Due.BEYOND : 30 - paid);
        }
        FourthFace y = Scene.known(2, 2);
        y.debt(0, 1, 1);
        y.debt(1, 0, 999);
        y.setPerson(1, 1, 9999);
        due.is("the least debt", y.pay(0), 1);
        due.is("the most debt, second no more", y.pay(0), 999);
        due.is("none is left", y.count(3), 0);
        // The last of eight goes, and the first: those behind move up.
        FourthFace z = Scene.known(2, 2);
        for (int i = 1; i <= 8; i++) {
            z.debt(0, 1, i == 8 ? 1 : i);
        }
        due.is("the last of eight", z.pay(7), 1);
        due.is("the others stay", z.debtIs(6, 2), 7);
        due.is("the first of seven", z.pay(0), 1);
        due.is("the second is first", z.debtIs(0, 2), 2);
        due.is("the last has moved up", z.debtIs(5, 2), 7);
        due.is("none where it was", z.debtIs(6, 2), Due.BEYOND);
    }

    private static void payingToTheMost() {
        int[] has = {9968, 9969, 9970, 9999};
        for (int coins : has) {
            FourthFace x = Scene.known(2, 2);
            x.debt(0, 1, 30);
            x.setPerson(0, 1, 100);
            x.setPerson(1, 1, coins);
            due.is("all is paid", x.pay(0), 30);
            due.is("of " + coins + " and 30", x.personIs(1, 1), Math.min(9999, coins + 30));
            due.is("it has gone", x.personIs(0, 1), 70);
            due.is("and is owed no more", x.count(3), 0);
        }
    }

    private static void losing() {
        FourthFace x = Scene.known(3, 2);
        for (int i = 0; i < 8; i++) {
            x.debt(i % 2, 1 - i % 2, 1);
        }
        due.is("all eight hold", x.count(4), 8);
        due.is("a crossing loses none", x.loses(0, 2), 0);
        x.setMan(0, 0, 3);
        due.is("that of a BLIND one all eight", x.loses(0, 2), 8);
        due.is("they hold still", x.count(4), 8);
        x.setMan(0, 0, 1);
        x.forget(0);
        x.cross(0, 0);
        x.alone(0);
        due.is("none holds", x.count(4), 0);
        due.is("eight come", x.loses(0, 1), -8);
        due.is("none has", x.count(4), 0);
    }

    /** So many new faces must come, and as many crossings bring him to 0's bank: a stranger by just so many. */
    private static void strangers() {
        for (int fewest = 0; fewest <= 5; fewest++) {
            FourthFace x = Due.withPeople(6);
            x.man(60 + fewest, 0);
            x.cross(0, 0);
            x.setMan(0, 2, 0);
            x.setPerson(0, 0, fewest % 2);
            for (int other = 1; other <= 5; other++) {
                x.setPerson(other, 0, (other - 1) % 2);
            }
            for (int n = 0; n <= 4; n++) {
                due.is(fewest + " by " + n, x.stranger(0, 0, n), n < fewest ? Due.NONE : fewest);
            }
        }
    }

    private static void strangersFirstAndLast() {
        FourthFace x = Due.withPeople(8);
        for (int man = 0; man < 4; man++) {
            x.man(61, 0);
        }
        x.setPerson(7, 0, 1);
        due.is("the last one to the last man", x.stranger(7, 3, 4), 1);
        x.cross(3, 6);
        due.is("it is on his bank now", x.stranger(7, 3, 0), 0);
        // 0 alone is over there with him: the one who can be hired may be the first of all.
        FourthFace y = Due.withPeople(2);
        y.man(60, 1);
        y.setPerson(0, 0, 1);
        due.is("the first one is hired", y.stranger(1, 0, 1), 1);
        FourthFace z = Due.withPeople(2);
        z.man(60, 1);
        z.setPerson(1, 0, 1);
        due.is("the last one is hired", z.stranger(0, 0, 1), 1);
    }

    private static void ways() {
        for (int n = 0; n <= 6; n++) {
            FourthFace x = Due.withPeople(1);
            for (int man = 0; man < 4; man++) {
                x.man(0, man == 3 ? 0 : 1);
            }
            // Over with 3; back with 0 free, and again with 1, 2; what is left goes with men who know.
            int[] coins = {0, 0, 0, 2, 2, 4, 4};
            due.is("coins by " + n, x.way(0, n, -1), coins[n]);
            if (n > 0) {
                due.is("the first by " + n, x.way(0, n, 0), 3);
            }
            if (n > 1) {
                due.is("the second by " + n, x.way(0, n, 1), 0);
            }
            due.is("none behind the last", x.way(0, n, n), Due.BEYOND);
        }
    }

    private static void waysWithMostCoins() {
        FourthFace x = Due.withPeople(1);
        x.man(69, 0);
        Due.text(x, 1, "99");
        Scene.carryOverAndBack(x, 0, 0);
        x.setPerson(0, 1, 0);
        for (int n = 0; n <= 6; n++) {
            due.is("99 each", x.way(0, n, -1), 99 * n);
        }
        due.is("the last MAN of six", x.way(0, 6, 5), 0);
        due.is("no coin is gone", x.personIs(0, 1), 0);
    }

    private static void memories() {
        for (int man = 0; man < 4; man += 3) {
            FourthFace x = Due.withPeople(8);
            for (int i = 0; i < 4; i++) {
                x.man(30, 0);
            }
            for (int i = 7; i >= 0; i--) {
                Scene.carryOverAndBack(x, man, i);
            }
            for (int one = 0; one < 8; one++) {
                for (int i = 0; i < 4; i++) {
                    due.is("of " + one, x.memory(i, one), i == man ? one + 1 : Due.NONE);
                }
            }
        }
        for (int man = 0; man < 4; man++) {
            for (int one = 0; one < 8; one++) {
                FourthFace x = Due.withPeople(8);
                for (int i = 0; i < 4; i++) {
                    x.man(30, 0);
                }
                x.cross(man, one);
                for (int i = 0; i < 32; i++) {
                    boolean that = i == 8 * man + one;
                    due.is("one crossing", x.memory(i / 8, i % 8), that ? 1 : Due.NONE);
                }
            }
        }
    }

    private static void memoriesOfTheBooksEnds() {
        FourthFace x = Due.withPeople(3);
        x.man(30, 0);
        x.man(30, 0);
        x.cross(0, 2);
        for (int i = 0; i < 23; i++) {
            x.cross(1, 0);
        }
        due.is("the oldest of 24", x.memory(0, 2), 1);
        x.cross(1, 0);
        due.is("the 25th back", x.memory(0, 2), Due.NONE);
        x.cross(1, 1);
        due.is("the latest", x.memory(1, 1), 1);
        due.is("the one ahead", x.memory(1, 0), 2);
    }

    private static void hearsay() {
        FourthFace x = Due.withPeople(2);
        for (int man = 0; man < 4; man++) {
            x.man(man == 3 ? 40 : 0, man == 3 ? 0 : 1);
        }
        due.is("all four", x.hearsay(3, 0), 15);
        due.is("the last one", x.hearsay(3, 1), 15);
        x.setMan(3, 0, 0);
        due.is("he alone", x.hearsay(3, 0), 8);
        x.setMan(3, 0, 3);
        due.is("none", x.hearsay(3, 0), 0);
        x.setMan(0, 2, 0);
        due.is("the first", x.hearsay(0, 0), 1);
    }

    private static void rows() {
        FourthFace none = new FourthFace();
        none.image();
        for (int n = 0; n <= 3; n++) {
            due.is("no men: one row of none", none.rows(n, 0), n == 0 ? 1 : 0);
            due.is("nobody crosses", none.rows(n, 1), 0);
        }
        FourthFace x = Due.withPeople(8);
        for (int man = 0; man < 4; man++) {
            x.man(30, 0);
        }
        x.image();
        due.is("by 0", x.rows(0, 0), 1);
        due.is("by 1", x.rows(1, 0), 32);
        // Behind the first, 3 men and 7 people are here, 1 and 1 there.
        due.is("by 2", x.rows(2, 0), 32 * 22);
        // Behind two: back (1 of 22) all 32; two men over (21) 2 * 6 here, 2 * 2 there.
        due.is("by 3", x.rows(3, 0), 32 * (32 + 21 * (12 + 4)));
        due.is("all can have crossed", x.rows(3, 1), 255);
        due.is("none in none", x.rows(0, 1), 0);
    }

    private static void rowsToldAnew() {
        FourthFace x = Due.withPeople(2);
        x.man(10, 0);
        x.image();
        x.cross(0, 1);
        due.is("by 1", x.rows(1, 0), 1);
        due.is("who", x.rows(1, 1), 2);
        due.is("by 0 there is none", x.rows(0, 0), 0);
        due.is("so none crosses", x.rows(0, 1), 0);
        x.man(10, 0);
        due.is("more MEN than in the image", x.rows(1, 0), 0);
        due.is("none crosses then", x.rows(1, 1), 0);
        x.image();
        due.is("as many again", x.rows(0, 0), 1);
        FourthFace y = Due.withPeople(2);
        y.man(30, 0);
        y.image();
        y.setMan(0, 0, 6);
        y.setMan(0, 1, 9);
        y.setMan(0, 2, 1);
        y.setPerson(0, 0, 1);
        y.person(1);
        due.is("whatever else", y.rows(0, 0), 1);
        due.is("from the image alone", y.rows(1, 0), 2);
        due.is("who of the image", y.rows(1, 1), 3);
    }

    private static void voices() {
        FourthFace x = new FourthFace();
        for (int man = 0; man < 4; man++) {
            x.man(49, 0);
        }
        due.is("rows of the first", x.voice(0, 0, 0), -15);
        due.is("rows of the last", x.voice(3, 0, 0), -6);
        due.is("parts of the last", x.voice(3, 3, 60), 10 - 6);
        due.is("the longest trace", x.count(8), 6);
        due.is("its first", x.body(0), 21);
        due.is("its last", x.body(5), 10);
        due.is("none behind it", x.body(6), Due.NONE);
        due.is("asks of the last", x.voice(3, 2, 0), -12 - 9 ^ 3);
        due.is("as long", x.count(8), 6);
        for (int m = 0; m < 10; m++) {
            FourthFace y = new FourthFace();
            for (int man = 0; man < 4; man++) {
                y.man(m, 0);
                due.is(m + " less " + man, y.voice(man, 3, 60), m == man ? Due.PARTED : 60 / (m - man));
                due.is("one BODY", y.count(8), 1);
                due.is("that of parts", y.body(0), 13);
            }
        }
    }

    private static void voicesThatWrap() {
        FourthFace x = new FourthFace();
        x.man(0, 0);
        x.man(0, 0);
        due.is("the most and 1", x.voice(1, 0, MOST), LEAST);
        due.is("the most and 0", x.voice(0, 0, MOST), MOST);
        due.is("the least twice", x.voice(0, 1, LEAST), 0);
        due.is("the most twice", x.voice(0, 1, MOST), -2);
        due.is("the least by -1", x.voice(1, 3, LEAST), LEAST);
        due.is("-1 by -1", x.voice(1, 3, -1), 1);
        x.setMan(1, 1, 9);
        due.is("the least twice, less 9", x.voice(0, 2, LEAST), 0);
        x.setMan(0, 0, 1);
        due.is("the least less 5", x.voice(0, 0, LEAST), MOST - 4);
        x.setMan(0, 0, 4);
        due.is("three times that", x.voice(0, 0, LEAST), (int) (3L * (MOST - 4)));
        x.setMan(0, 0, 2);
        due.is("0 less the least: twice 2 to the 30", x.voice(0, 1, 1 << 30), LEAST);
        x.setMan(0, 0, 5);
        due.is("one more than the most", x.voice(0, 1, MOST), 0);
        x.setMan(0, 0, 3);
        due.is("-1 by 2 is 0, cut", x.voice(0, 2, -1), 0);
        due.is("1 by 2 is 0, cut", x.voice(0, 2, 1), 0);
        due.is("-3 by 2 is -1, cut", x.voice(0, 2, -3), -2);
        due.is("the least by 2, twice", x.voice(0, 2, LEAST), LEAST);
    }

    private static void sheets() {
        int[] bits = {8, 16, 32};
        for (int sheet = 0; sheet < 4; sheet++) {
            for (int of : bits) {
                FourthFace x = new FourthFace();
                due.is("of no numbers", x.sheet(sheet, of, 0), 1);
                due.is("not one", x.put(sheet, 0, 1), Due.BEYOND);
                due.is("of one number", x.sheet(sheet, of, 1), 1);
                due.is("it", x.put(sheet, 0, 1), 1);
                due.is("not two", x.put(sheet, 1, 1), Due.BEYOND);
                due.is("of 24", x.sheet(sheet, of, 24), 1);
                due.is("the last", x.put(sheet, 23, MOST), 1);
                due.is("missing, of the least", x.sheet(sheet, 0, LEAST), 1);
                due.is("it is", x.put(sheet, 23, 1), Due.NONE);
                due.is("missing, of the most", x.sheet(sheet, 0, MOST), 1);
                due.is("it is still", x.crossings(sheet), Due.NONE);
            }
        }
        FourthFace y = Scene.known(3, 3);
        Scene.sheetOf(y, 0, 8, 2, 1, 0);
        due.is("a mind", y.judge(0, 0), -1);
        y.sheet(0, 8, 3);
        due.is("all 0 anew, of as many bits", y.judge(0, 0), 0);
        Scene.sheetOf(y, 0, 32, 2, 1, 0);
        y.sheet(0, 32, 0);
        y.sheet(0, 32, 3);
        due.is("all 0, as there were none between", y.judge(0, 0), 0);
        int[] high = {1 << 8, 1 << 16};
        for (int i = 0; i < 2; i++) {
            Scene.sheetOf(y, 1, bits[i], 2 | high[i], 1 - high[i], -high[i]);
            due.is("the lowest bits alone, of " + bits[i], y.judge(1, 0), -1);
            Scene.sheetOf(y, 1, bits[i], 2 | high[i] / 2, 1, 0);
            due.is("the highest of its bits, of " + bits[i], y.judge(1, 0), 0);
        }
        Scene.sheetOf(y, 1, 32, 2 | LEAST, 1, 0);
        due.is("the highest of 32 bits", y.judge(1, 0), 0);
    }

    private static void moves() {
        FourthFace x = Scene.known(3, 3);
        x.sheet(0, 8, 24);
        x.sheet(3, 8, 24);
        due.is("all 24 to another", x.move(0, 0, 3, 0, 24), 24);
        due.is("all 24 to itself", x.move(3, 0, 3, 0, 24), 24);
        due.is("25", x.move(0, 0, 3, 0, 25), Due.BEYOND);
        due.is("the last to the last", x.move(0, 23, 3, 23, 1), 1);
        due.is("from the 25th", x.move(0, 24, 3, 0, 1), Due.BEYOND);
        due.is("to the 25th", x.move(0, 0, 3, 24, 1), Due.BEYOND);
        due.is("none from the end to the end", x.move(0, 24, 3, 24, 0), 0);
        due.is("none from the first to the first", x.move(0, 0, 3, 0, 0), 0);
        x.sheet(1, 16, 0);
        x.sheet(2, 16, 0);
        due.is("none of none", x.move(1, 0, 2, 0, 0), 0);
        due.is("one of none", x.move(1, 0, 2, 0, 1), Due.BEYOND);
        due.is("of unlike bits none", x.move(0, 0, 1, 0, 0), Due.KIND);
        // Each end of both sheets: what isn't moved stays.
        Scene.sheetOf(x, 0, 8, 9, 1, 9);
        Scene.sheetOf(x, 3, 8, 2, 9, 0);
        due.is("the one amid", x.move(0, 1, 3, 1, 1), 1);
        due.is("is there, all else stays", x.judge(3, 0), -1);
        Scene.sheetOf(x, 0, 8, 2, 9, 9);
        Scene.sheetOf(x, 3, 8, 9, 1, 0);
        due.is("the first", x.move(0, 0, 3, 0, 1), 1);
        due.is("is there", x.judge(3, 0), -1);
        Scene.sheetOf(x, 0, 8, 0, 9, 9);
        Scene.sheetOf(x, 3, 8, 2, 1, 9);
        due.is("the first to the last", x.move(0, 0, 3, 2, 1), 1);
        due.is("it is there", x.judge(3, 0), -1);
        Scene.sheetOf(x, 0, 8, 9, 2, 1);
        Scene.sheetOf(x, 3, 8, 9, 9, 0);
        due.is("the last two to the first two", x.move(0, 1, 3, 0, 2), 2);
        due.is("they are there", x.judge(3, 0), -1);
    }

    private static void crossingsOfASheet() {
        int[] widths = {8, 16, 32};
        for (int bits : widths) {
            for (int numbers = 0; numbers <= 24; numbers++) {
                FourthFace x = Due.withPeople(1);
                x.man(0, 0);
                x.sheet(2, bits, numbers);
                due.is("of " + numbers, x.crossings(2), numbers / 2);
                due.is("TURN", x.count(2), numbers / 2);
            }
        }
        FourthFace x = Due.withPeople(8);
        for (int man = 0; man < 4; man++) {
            x.man(0, 0);
        }
        Scene.sheetOf(x, 3, 32, 3, 7, 0, 0, 4, 1);
        due.is("the last and the first; no fifth man", x.crossings(3), 2);
        Scene.sheetOf(x, 3, 32, 1, 1, 1, 8);
        due.is("no ninth one", x.crossings(3), 1);
        Scene.sheetOf(x, 3, 32, 2, 2, 2, -1);
        due.is("none below", x.crossings(3), 1);
        Scene.sheetOf(x, 3, 32, -1, 0);
        due.is("no man below", x.crossings(3), 0);
        Scene.sheetOf(x, 3, 32, LEAST, MOST);
        due.is("the least and the most", x.crossings(3), 0);
        due.is("no ERROR", x.told(1) + x.told(3), 0);
    }

    private static void judging() {
        for (int faces = 0; faces <= 8; faces++) {
            FourthFace x = Scene.known(8, faces);
            for (int numbers = 0; numbers <= 24; numbers++) {
                x.sheet(0, 16, numbers);
                for (int i = 0; i < Math.min(numbers, faces); i++) {
                    x.put(0, i, faces - 1 - i);
                }
                int want = numbers == faces ? -1 : Math.min(numbers, faces);
                due.is(numbers + " numbers, " + faces + " faces", x.judge(0, 0), want);
            }
        }
        FourthFace y = Scene.known(8, 8);
        for (int wrong = 0; wrong < 8; wrong++) {
            Scene.sheetOf(y, 0, 8, 7, 6, 5, 4, 3, 2, 1, 0);
            y.put(0, wrong, 8);
            due.is("the first that isn't so", y.judge(0, 0), wrong);
        }
    }

    private static void imagesOfNoneAndAll() {
        FourthFace x = new FourthFace();
        due.is("an image of nothing", x.image(), 1);
        for (int i = 0; i < 8; i++) {
            x.person(1);
        }
        for (int i = 0; i < 4; i++) {
            x.man(10, 1);
        }
        x.cross(3, 7);
        x.debt(7, 0, 999);
        x.tell(5);
        x.feed('1', 1);
        x.text(0);
        x.feed('1', 1);
        due.is("restored", x.restore(), 0);
        int[] counts = {0, 0, 0, 0, 0, 0, 0, 0, 0, 1, 0};
        for (int what = 0; what < counts.length; what++) {
            due.is("nothing: count(" + what + ")", x.count(what), counts[what]);
        }
        due.is("no TEXT", x.untell(0), 0);
        due.is("no first crossing", x.book(0), Due.NONE);
        due.is("one anew", x.person(0), 0);
        due.is("has 20 coins", x.personIs(0, 1), 20);
        due.is("is on its bank", x.personIs(0, 0), 0);
        due.is("a man anew", x.man(0, 0), 0);
        due.is("knows none", x.manIs(0, 6), 0);
        due.is("has no coins", x.manIs(0, 3), 0);
        FourthFace y = Scene.full();
        FourthFace twin = Scene.full();
        y.draws(30);
        y.check(0);
        y.text(0);
        y.text(1);
        y.forget(0);
        y.pay(0);
        y.seed(3);
        due.is("restored to all", y.restore(), 26);
        twin.restore();
        due.is("all is as it was", Scene.seen(y).equals(Scene.seen(twin)) ? 1 : 0, 1);
    }

    private static void theTapeOfAnImage() {
        FourthFace x = new FourthFace();
        x.man(60, 0);
        Due.feed(x, "3+4");
        x.tell(5);
        x.image();
        x.text(0);
        x.check(0);
        Due.feed(x, "1*2");
        x.tell(6);
        due.is("restored", x.restore(), 0);
        due.is("its bytes", x.text(0), 1);
        due.is("are those of the image", x.manIs(0, 4), 7);
        due.is("restored again", x.restore(), 0);
        due.is("there is no TEXT", x.manIs(0, 4), 0);
        due.is("its bytes are there", x.count(6), 3);
    }

    private static void telling() {
        FourthFace x = Due.withPeople(1);
        x.man(0, 0);
        int[] any = {LEAST, MOST, -1, 0, -1000000001};
        for (int i = 0; i < 24; i++) {
            due.is("number " + i, x.tell(any[i % 5]), i + 1);
        }
        due.is("a 25th", x.tell(0), Due.FULL);
        due.is("none of these is known", x.check(0), 1);
        due.is("none waits", x.count(7), 0);
        due.is("the first again", x.tell(0), 1);
    }

    private static void checking() {
        for (int faces = 0; faces <= 8; faces++) {
            for (int numbers = 0; numbers <= 24; numbers++) {
                FourthFace x = Scene.known(8, faces);
                for (int i = 0; i < numbers; i++) {
                    x.tell(i % 8);
                }
                // Right as long as they are known, each once; then one lacks, or one is too many.
                int want = numbers == faces ? 0 : 1 + Math.min(numbers, faces);
                due.is(numbers + " numbers, " + faces + " known", x.check(0), want);
                due.is("none waits", x.count(7), 0);
            }
        }
    }

    private static void counts() {
        FourthFace x = Scene.full();
        int[] wants = {8, 4, 26, 8, 8, 160, 60, 24, 0, 1, 24};
        for (int what = 0; what <= 10; what++) {
            due.is("count(" + what + ") of all", x.count(what), wants[what]);
        }
        for (int one = 0; one < 8; one++) {
            x.setPerson(one, 1, 9999);
        }
        int his = x.manIs(0, 3);
        due.is("the most coins of people, and his", x.count(5), 8 * 9999 + his);
    }
}
