import java.util.Collections;
import java.util.List;
import java.util.Random;

/** Long runs of calls, the answers of FourthFace against those of PlainFerry. The runs are the same each time. */
public final class ModelTest {
    private static final int RUNS = 1500;
    private static final int CALLS = 240;
    private static final String[] TEXTS = {
        "m", "t", "p", "k", "b", "m+t%3", "8-t%9", "p-m", "k*2+b", "99", "100", "0-1", "!m*4", "(m<t)*5+(p>3)", "1+",
        "m|0", "m&t", "3=p", "7/(m-3)", "7%(b-1)", "12345", "!!!!!!1", "((((((", "m+(t", "b&k", "2-k", "",
    };

    private final Random random;
    private final FourthFace face = new FourthFace();
    private final PlainFerry plain = new PlainFerry();
    private final StringBuilder calls = new StringBuilder();
    private boolean wrong;

    private ModelTest(long seed) {
        random = new Random(seed);
    }

    public static void main(String[] args) {
        for (int run = 0; run < RUNS; run++) {
            ModelTest test = new ModelTest(run);
            if (!test.agrees()) {
                String calls = test.calls.toString();
                System.out.println("ModelTest: run " + run + ", the latest of " + calls.length() + " signs:");
                System.out.println(calls.substring(Math.max(0, calls.length() - 4000)));
                System.exit(1);
            }
        }
        System.out.println("ModelTest: " + RUNS + " runs as due");
    }

    private boolean agrees() {
        begin();
        for (int i = 0; i < CALLS && !wrong; i++) {
            one(random.nextInt(100));
        }
        if (!wrong) {
            all();
        }
        return !wrong;
    }

    private void begin() {
        int people = Math.max(random.nextInt(9), random.nextInt(9));
        int men = Math.max(random.nextInt(5), random.nextInt(5));
        for (int i = 0; i < people; i++) {
            int bank = random.nextInt(4) / 3;
            due("person " + bank, face.person(bank), plain.person(bank));
        }
        for (int i = 0; i < men; i++) {
            int km = random.nextInt(70);
            int bank = random.nextInt(2);
            due("man " + km + " " + bank, face.man(km, bank), plain.man(km, bank));
        }
    }

    private void due(String call, int got, int want) {
        if (wrong) {
            return;
        }
        calls.append(call).append(" -> ").append(want).append('\n');
        if (got != want) {
            calls.append("but answered ").append(got);
            wrong = true;
        }
    }

    /** Mostly 0 to most, now and then one that lies beyond. */
    private int some(int most) {
        return random.nextInt(25) == 0 ? random.nextInt(most + 5) - 2 : random.nextInt(most + 1);
    }

    private int aMan() {
        return some(Math.max(0, plain.men() - 1));
    }

    private int aPerson() {
        return some(Math.max(0, plain.people() - 1));
    }

    /** One of people who is on the man's bank, if there is one. */
    private int near(int man) {
        List<Integer> there = plain.peopleWith(man);
        return there.isEmpty() ? aPerson() : there.get(random.nextInt(there.size()));
    }

    private void one(int which) {
        if (which < 30) {
            ride();
        } else if (which < 45) {
            setUp();
        } else if (which < 55) {
            texts();
        } else if (which < 65) {
            debts();
        } else if (which < 83) {
            whatWouldBe();
        } else if (which < 95) {
            sheetsAndImages();
        } else {
            all();
        }
    }

    private void ride() {
        int man = aMan();
        int one = random.nextInt(5) == 0 ? aPerson() : near(man);
        int n = 1 + some(7);
        switch (random.nextInt(8)) {
            case 0 -> due("alone " + man, face.alone(man), plain.alone(man));
            case 1 -> due("draws " + n, face.draws(n), plain.draws(n));
            case 2 -> {
                int z = random.nextInt();
                due("seed " + z, face.seed(z), plain.seed(z));
            }
            default -> due("cross " + man + " " + one, face.cross(man, one), plain.cross(man, one));
        }
    }

    private void setUp() {
        int man = aMan();
        int one = aPerson();
        int kind = some(6);
        int digit = some(9);
        int bank = some(1);
        int coins = random.nextInt(3) == 0 ? random.nextInt(4) : some(9999);
        switch (random.nextInt(10)) {
            case 0 -> due("person " + bank, face.person(bank), plain.person(bank));
            case 1 -> {
                int km = some(69);
                due("man " + km + " " + bank, face.man(km, bank), plain.man(km, bank));
            }
            case 2, 3 -> due("setMan " + man + " 0 " + kind, face.setMan(man, 0, kind), plain.setMan(man, 0, kind));
            case 4 -> due("setMan " + man + " 1 " + digit, face.setMan(man, 1, digit), plain.setMan(man, 1, digit));
            case 5 -> due("setMan " + man + " 2 " + bank, face.setMan(man, 2, bank), plain.setMan(man, 2, bank));
            case 6 -> due("setPerson " + one + " 0 " + bank, face.setPerson(one, 0, bank), plain.setPerson(one, 0, bank));
            case 7 -> due("setPerson " + one + " 1 " + coins, face.setPerson(one, 1, coins), plain.setPerson(one, 1, coins));
            case 8 -> due("as " + man + " " + kind, face.as(man, kind), plain.as(man, kind));
            default -> {
                if (random.nextInt(4) == 0) {
                    due("forget " + man, face.forget(man), plain.forget(man));
                }
            }
        }
    }

    private String aText() {
        if (random.nextInt(3) == 0) {
            return TEXTS[random.nextInt(TEXTS.length)];
        }
        if (random.nextInt(2) == 0) {
            return aWholeText(random.nextInt(7), random.nextBoolean() ? "tp" : "kb");
        }
        String signs = random.nextBoolean() ? "mtp0129+-*/%<=>|&!()()" : "mkb0129+-*/%<=>|&!()!!";
        StringBuilder text = new StringBuilder();
        int length = random.nextInt(9);
        for (int i = 0; i < length; i++) {
            boolean operand = i % 2 == 0;
            text.append(operand ? signs.charAt(random.nextInt(7)) : signs.charAt(random.nextInt(signs.length())));
        }
        return text.toString();
    }

    /** By the grammar, of 60 bytes at most, now and then with one byte that is another. */
    private String aWholeText(int deep, String names) {
        StringBuilder text = new StringBuilder();
        join(text, deep, names);
        if (random.nextInt(4) == 0) {
            String signs = "mtkpb019+-*/%<=>|&!() ";
            text.setCharAt(random.nextInt(text.length()), signs.charAt(random.nextInt(signs.length())));
        }
        return text.substring(0, Math.min(60, text.length()));
    }

    private void join(StringBuilder text, int deep, String names) {
        int joined = random.nextInt(4);
        one(text, deep, names);
        for (int i = 0; i < joined; i++) {
            text.append("|&<=>+-*/%+-*".charAt(random.nextInt(13)));
            one(text, deep, names);
        }
    }

    private void one(StringBuilder text, int deep, String names) {
        int which = random.nextInt(deep > 0 ? 6 : 3);
        if (which == 0) {
            text.append(random.nextInt(random.nextBoolean() ? 4 : 10000));
        } else if (which < 3) {
            text.append(random.nextBoolean() ? 'm' : names.charAt(random.nextInt(2)));
        } else if (which == 3) {
            text.append('!');
            one(text, deep - 1, names);
        } else {
            text.append('(');
            join(text, deep - 1, names);
            text.append(')');
        }
    }

    private void texts() {
        int use = some(1);
        String text = aText();
        for (int i = 0; i < text.length(); i++) {
            long word = text.charAt(i) | random.nextLong() << 8;
            due("feed " + text.charAt(i), face.feed(word, 1), plain.feed(word, 1));
        }
        if (random.nextInt(10) == 0) {
            long word = random.nextLong();
            int n = some(8);
            due("feed " + word + " " + n, face.feed(word, n), plain.feed(word, n));
        }
        if (random.nextInt(10) > 0) {
            due("text " + use, face.text(use), plain.text(use));
        }
        if (random.nextInt(6) == 0) {
            due("untell " + use, face.untell(use), plain.untell(use));
        }
    }

    private void debts() {
        int who = aPerson();
        int whom = aPerson();
        int coins = 1 + some(998);
        int debt = some(7);
        switch (random.nextInt(3)) {
            case 0 -> due("debt " + who + " " + whom + " " + coins, face.debt(who, whom, coins), plain.debt(who, whom, coins));
            case 1 -> {
                int what = some(3);
                due("debtIs " + debt + " " + what, face.debtIs(debt, what), plain.debtIs(debt, what));
            }
            default -> due("pay " + debt, face.pay(debt), plain.pay(debt));
        }
    }

    private void whatWouldBe() {
        int man = aMan();
        int one = aPerson();
        int with = near(man);
        int n = some(3);
        switch (random.nextInt(7)) {
            case 0 -> due("stranger " + one + " " + man + " " + n, face.stranger(one, man, n), plain.stranger(one, man, n));
            case 1 -> {
                int i = random.nextInt(5) - 1;
                due("way " + one + " " + n + " " + i, face.way(one, n, i), plain.way(one, n, i));
            }
            case 2 -> due("memory " + man + " " + one, face.memory(man, one), plain.memory(man, one));
            case 3 -> due("hearsay " + man + " " + with, face.hearsay(man, with), plain.hearsay(man, with));
            case 4 -> due("loses " + man + " " + with, face.loses(man, with), plain.loses(man, with));
            case 5 -> {
                int less = n == 3 && random.nextInt(8) > 0 ? 2 : n;
                int what = some(1);
                due("rows " + less + " " + what, face.rows(less, what), plain.rows(less, what));
            }
            default -> dearest(man, one);
        }
    }

    private void dearest(int man, int one) {
        if (random.nextInt(10) > 0) {
            return;
        }
        int i = random.nextInt(7) - 1;
        int n = 4 + random.nextInt(3);
        due("stranger " + one + " " + man + " 4", face.stranger(one, man, 4), plain.stranger(one, man, 4));
        due("way " + one + " " + n + " " + i, face.way(one, n, i), plain.way(one, n, i));
    }

    private void sheetsAndImages() {
        int man = aMan();
        int sheet = some(3);
        int i = some(9);
        int j = some(9);
        int n = some(12);
        int number = some(3);
        switch (random.nextInt(12)) {
            case 0 -> {
                int bits = new int[] {0, 8, 16, 32, 8, 16, 32, 8, 7}[random.nextInt(9)];
                due("sheet " + sheet + " " + bits + " " + n, face.sheet(sheet, bits, n), plain.sheet(sheet, bits, n));
            }
            case 1, 2, 3 -> {
                int v = random.nextInt(9) == 0 ? number | 1 << 8 + random.nextInt(24) : number;
                due("put " + sheet + " " + i + " " + v, face.put(sheet, i, v), plain.put(sheet, i, v));
            }
            case 4 -> {
                int other = some(3);
                due("move " + sheet + " " + i + " " + other + " " + j + " " + n, face.move(sheet, i, other, j, n),
                    plain.move(sheet, i, other, j, n));
            }
            case 5 -> due("crossings " + sheet, face.crossings(sheet), plain.crossings(sheet));
            case 6 -> mindOnASheet(man, sheet);
            case 7 -> due("image", face.image(), plain.image());
            case 8 -> due("restore", face.restore(), plain.restore());
            case 9, 10 -> telling(man);
            default -> {
                int voice = some(3);
                int x = random.nextBoolean() ? random.nextInt() : some(9);
                due("voice " + man + " " + voice + " " + x, face.voice(man, voice, x), plain.voice(man, voice, x));
                for (int b = 0; b < 7; b++) {
                    due("body " + b, face.body(b), plain.body(b));
                }
            }
        }
    }

    private void mindOnASheet(int man, int sheet) {
        List<Integer> mind = plain.mindOf(man);
        if (random.nextInt(4) == 0) {
            mind.add(some(7));
        }
        due("sheet " + sheet + " 16 " + mind.size(), face.sheet(sheet, 16, mind.size()), plain.sheet(sheet, 16, mind.size()));
        for (int i = 0; i < mind.size(); i++) {
            int v = random.nextInt(12) == 0 ? some(7) : mind.get(i);
            due("put " + sheet + " " + i + " " + v, face.put(sheet, i, v), plain.put(sheet, i, v));
        }
        due("judge " + sheet + " " + man, face.judge(sheet, man), plain.judge(sheet, man));
    }

    private void telling(int man) {
        if (random.nextInt(3) == 0) {
            int numbers = random.nextInt(5) == 0 ? some(26) : some(5);
            for (int i = 0; i < numbers; i++) {
                int v = some(7);
                due("tell " + v, face.tell(v), plain.tell(v));
            }
            return;
        }
        due("check " + man, face.check(man), plain.check(man));
        List<Integer> mind = plain.mindOf(man);
        Collections.shuffle(mind, random);
        for (int v : mind) {
            int told = random.nextInt(15) == 0 ? some(7) : v;
            due("tell " + told, face.tell(told), plain.tell(told));
        }
        due("check " + man, face.check(man), plain.check(man));
    }

    private void all() {
        for (int what = -1; what < 12; what++) {
            due("count " + what, face.count(what), plain.count(what));
        }
        for (int man = 0; man < 4; man++) {
            for (int what = 0; what < 15; what++) {
                due("manIs " + man + " " + what, face.manIs(man, what), plain.manIs(man, what));
            }
        }
        for (int one = 0; one < 8; one++) {
            for (int what = 0; what < 4; what++) {
                due("personIs " + one + " " + what, face.personIs(one, what), plain.personIs(one, what));
            }
        }
        for (int debt = 0; debt < 8; debt++) {
            for (int what = 0; what < 4; what++) {
                due("debtIs " + debt + " " + what, face.debtIs(debt, what), plain.debtIs(debt, what));
            }
        }
        for (int i = 0; i < 25; i++) {
            due("book " + i, face.book(i), plain.book(i));
        }
        for (int k = 0; k < 8; k++) {
            due("told " + k, face.told(k), plain.told(k));
        }
    }
}
