import java.util.ArrayList;
import java.util.Arrays;
import java.util.HashMap;
import java.util.LinkedHashSet;
import java.util.List;
import java.util.Map;
import java.util.Set;

/**
 * The document once more, in another way: kinds are classes that ask their super, errors are thrown, what would be is
 * found by trying every row on a copy. Slow and plain, so that ModelTest can hold FourthFace against it.
 */
final class PlainFerry {
    private static final int LOW = -1000000000;
    private static final int BEYOND = 1;
    private static final int NONE = 2;
    private static final int STATE = 3;
    private static final int FULL = 4;
    private static final int KIND = 5;
    private static final int PARTED = 6;

    private static final class Refusal extends RuntimeException {
        private static final long serialVersionUID = 1L;
        final int error;

        Refusal(int error) {
            super(null, null, false, false);
            this.error = error;
        }
    }

    private interface Act {
        int answer();
    }

    private static final class Person {
        int bank;
        int coins = 20;
    }

    private static final class Debt {
        int who;
        int whom;
        int coins;
    }

    /** A text that has been read; worked out by cutting it at what binds least. */
    private static final class Text {
        static int fault(String text, String names) {
            List<Character> open = new ArrayList<>();
            List<Boolean> compared = new ArrayList<>(List.of(false));
            boolean wantsOne = true;
            int digits = 0;
            for (int i = 0; i < text.length(); i++) {
                char c = text.charAt(i);
                if (wantsOne) {
                    if (c == '!' || c == '(') {
                        if (open.size() == 5) {
                            return i;
                        }
                        open.add(c);
                        if (c == '(') {
                            compared.add(false);
                        }
                        continue;
                    }
                    boolean digit = c >= '0' && c <= '9';
                    if (!digit && names.indexOf(c) < 0) {
                        return i;
                    }
                    digits = digit ? 1 : 0;
                    wantsOne = false;
                    closeNots(open);
                } else if (c >= '0' && c <= '9' && digits > 0 && digits < 4) {
                    digits++;
                } else if ("+-*/%".indexOf(c) >= 0) {
                    wantsOne = true;
                } else if (c == '|' || c == '&') {
                    wantsOne = true;
                    compared.set(compared.size() - 1, false);
                } else if ((c == '<' || c == '=' || c == '>') && !compared.get(compared.size() - 1)) {
                    wantsOne = true;
                    compared.set(compared.size() - 1, true);
                } else if (c == ')' && !open.isEmpty()) {
                    open.remove(open.size() - 1);
                    compared.remove(compared.size() - 1);
                    closeNots(open);
                    digits = 0;
                } else {
                    return i;
                }
            }
            return wantsOne || !open.isEmpty() ? text.length() : -1;
        }

        private static void closeNots(List<Character> open) {
            while (!open.isEmpty() && open.get(open.size() - 1) == '!') {
                open.remove(open.size() - 1);
            }
        }

        static int value(String text, Map<Character, Integer> names) {
            for (String signs : new String[] {"|", "&", "<=>", "+-", "*/%"}) {
                int at = lastOutside(text, signs);
                if (at >= 0) {
                    int left = value(text.substring(0, at), names);
                    int right = value(text.substring(at + 1), names);
                    return join(text.charAt(at), left, right);
                }
            }
            if (text.charAt(0) == '!') {
                return value(text.substring(1), names) == 0 ? 1 : 0;
            }
            if (text.charAt(0) == '(') {
                return value(text.substring(1, text.length() - 1), names);
            }
            Integer named = names.get(text.charAt(0));
            return named != null ? named : Integer.parseInt(text);
        }

        private static int lastOutside(String text, String signs) {
            int depth = 0;
            for (int i = text.length() - 1; i >= 0; i--) {
                char c = text.charAt(i);
                depth += c == ')' ? 1 : c == '(' ? -1 : 0;
                if (depth == 0 && signs.indexOf(c) >= 0) {
                    return i;
                }
            }
            return -1;
        }

        private static int join(char sign, int a, int b) {
            return switch (sign) {
                case '|' -> a != 0 || b != 0 ? 1 : 0;
                case '&' -> a != 0 && b != 0 ? 1 : 0;
                case '<' -> a < b ? 1 : 0;
                case '=' -> a == b ? 1 : 0;
                case '>' -> a > b ? 1 : 0;
                case '+' -> a + b;
                case '-' -> a - b;
                case '*' -> a * b;
                case '/' -> b == 0 ? 0 : (int) ((long) a / b);
                default -> b == 0 ? 0 : (int) ((long) a % b);
            };
        }
    }

    private static class Man {
        int k;
        int m;
        int bank;
        int coins;
        List<Integer> mind = new ArrayList<>();

        int kind() {
            return 0;
        }

        int keeps(World w) {
            return 3;
        }

        int fare(World w) {
            return 2 + m;
        }

        int rows(int x, List<Integer> trace) {
            trace.add(10);
            return x + k;
        }

        int keepsVoice(int x, List<Integer> trace) {
            trace.add(11);
            return rows(x, trace) * 2;
        }

        int asks(int x, List<Integer> trace) {
            trace.add(12);
            return keepsVoice(x, trace) - m;
        }

        int parts(int x, List<Integer> trace) {
            trace.add(13);
            if (m == k) {
                throw new Refusal(PARTED);
            }
            return (int) ((long) x / (m - k));
        }

        final Man with(Man other) {
            k = other.k;
            m = other.m;
            bank = other.bank;
            coins = other.coins;
            mind = new ArrayList<>(other.mind);
            return this;
        }
    }

    private static class LongMan extends Man {
        @Override
        int kind() {
            return 1;
        }

        @Override
        int keeps(World w) {
            return super.keeps(w) + m;
        }

        @Override
        int rows(int x, List<Integer> trace) {
            trace.add(20);
            return super.rows(x, trace) - 5;
        }

        @Override
        int parts(int x, List<Integer> trace) {
            trace.add(21);
            return super.parts(x, trace) + keepsVoice(1, trace);
        }
    }

    private static class SoftMan extends Man {
        @Override
        int kind() {
            return 2;
        }

        @Override
        int fare(World w) {
            return super.fare(w) / 2;
        }

        @Override
        int keepsVoice(int x, List<Integer> trace) {
            trace.add(30);
            return 0 - super.keepsVoice(x, trace);
        }
    }

    private static final class BlindMan extends Man {
        @Override
        int kind() {
            return 3;
        }

        @Override
        int keeps(World w) {
            return 0;
        }

        @Override
        int fare(World w) {
            return 1;
        }

        @Override
        int asks(int x, List<Integer> trace) {
            trace.add(40);
            return super.asks(x / 2, trace);
        }
    }

    private static final class GossipMan extends LongMan {
        @Override
        int kind() {
            return 4;
        }

        @Override
        int keeps(World w) {
            return super.keeps(w) - 1;
        }

        @Override
        int fare(World w) {
            return super.fare(w) + 1;
        }

        @Override
        int rows(int x, List<Integer> trace) {
            trace.add(50);
            return super.rows(x, trace) * 3;
        }

        @Override
        int asks(int x, List<Integer> trace) {
            trace.add(51);
            return super.asks(x, trace) ^ k;
        }
    }

    private static final class PaidMan extends SoftMan {
        @Override
        int kind() {
            return 5;
        }

        @Override
        int keepsVoice(int x, List<Integer> trace) {
            trace.add(60);
            return super.keepsVoice(x + 1, trace);
        }
    }

    private static final class ToldMan extends Man {
        @Override
        int kind() {
            return 6;
        }

        @Override
        int keeps(World w) {
            return w.texts[0] == null ? m : Text.value(w.texts[0], Map.of('m', m, 't', w.turn, 'p', w.people.size()));
        }

        @Override
        int fare(World w) {
            int known = mind.size();
            return w.texts[1] == null ? m + known : Text.value(w.texts[1], Map.of('m', m, 'k', known, 'b', bank));
        }

        @Override
        int rows(int x, List<Integer> trace) {
            trace.add(70);
            return 3;
        }

        @Override
        int keepsVoice(int x, List<Integer> trace) {
            trace.add(71);
            return super.keepsVoice(x, trace) + m;
        }
    }

    private static Man ofKind(int kind) {
        return switch (kind) {
            case 0 -> new Man();
            case 1 -> new LongMan();
            case 2 -> new SoftMan();
            case 3 -> new BlindMan();
            case 4 -> new GossipMan();
            case 5 -> new PaidMan();
            default -> new ToldMan();
        };
    }

    private static Class<?> classOf(int kind) {
        return ofKind(kind).getClass();
    }

    private static int within(int value, int most) {
        return value < 0 ? 0 : value > most ? most : value;
    }

    private static final class World {
        List<Person> people = new ArrayList<>();
        List<Man> men = new ArrayList<>();
        List<Debt> debts = new ArrayList<>();
        List<int[]> book = new ArrayList<>();
        List<Integer> waiting = new ArrayList<>();
        String tape = "";
        String[] texts = new String[2];
        int turn;
        int z = 1;

        World copy() {
            World w = new World();
            for (Person p : people) {
                Person q = new Person();
                q.bank = p.bank;
                q.coins = p.coins;
                w.people.add(q);
            }
            for (Man man : men) {
                w.men.add(ofKind(man.kind()).with(man));
            }
            for (Debt d : debts) {
                Debt e = new Debt();
                e.who = d.who;
                e.whom = d.whom;
                e.coins = d.coins;
                w.debts.add(e);
            }
            w.book.addAll(book);
            w.waiting.addAll(waiting);
            w.tape = tape;
            w.texts = texts.clone();
            w.turn = turn;
            w.z = z;
            return w;
        }

        void faceComes(Man man, int one) {
            man.mind.remove((Integer) one);
            man.mind.add(0, one);
            int keeps = within(man.keeps(this), 8);
            while (man.mind.size() > keeps) {
                man.mind.remove(man.mind.size() - 1);
            }
        }

        int crossing(int number, int one) {
            Man man = men.get(number);
            Person person = people.get(one);
            int paid = 0;
            boolean allPaid = false;
            if (man.mind.contains(one)) {
                int fare = within(man.fare(this), 99);
                paid = Math.min(fare, person.coins);
                allPaid = paid == fare && fare > 0;
                person.coins -= paid;
                man.coins += paid;
            }
            man.bank ^= 1;
            person.bank ^= 1;
            if (man instanceof PaidMan && allPaid) {
                man.mind.remove((Integer) one);
            } else {
                faceComes(man, one);
            }
            if (man instanceof GossipMan) {
                for (Man other : men) {
                    if (other != man && other.bank == man.bank) {
                        faceComes(other, one);
                    }
                }
            }
            book.add(0, new int[] {number, one});
            if (book.size() > 24) {
                book.remove(24);
            }
            turn++;
            return paid;
        }

        boolean together(int man, int one) {
            return men.get(man).bank == people.get(one).bank;
        }

        Set<Integer> heap(int one) {
            Set<Integer> heap = new LinkedHashSet<>(Set.of(one));
            boolean grew = true;
            while (grew) {
                grew = false;
                for (Man man : men) {
                    for (int face : man.mind) {
                        if (heap.contains(face)) {
                            grew |= heap.addAll(man.mind);
                            break;
                        }
                    }
                }
            }
            return heap;
        }

        boolean holds(int debt) {
            return heap(debts.get(debt).who).contains(debts.get(debt).whom);
        }

        int draw() {
            z = z * 1103515245 + 12345;
            return z >>> 8;
        }

        List<List<Integer>> minds() {
            List<List<Integer>> minds = new ArrayList<>();
            for (Man man : men) {
                minds.add(new ArrayList<>(man.mind));
            }
            return minds;
        }
    }

    private World w = new World();
    private World image;
    private int images;
    private final int[] told = new int[7];
    private List<Integer> trace = new ArrayList<>();
    private final int[][] sheets = new int[4][];
    private final int[] bits = new int[4];

    private int act(Act act) {
        try {
            return act.answer();
        } catch (Refusal refusal) {
            told[refusal.error]++;
            return LOW - refusal.error;
        }
    }

    private static void unless(boolean right, int error) {
        if (!right) {
            throw new Refusal(error);
        }
    }

    private static boolean in(int v, int from, int to) {
        return from <= v && v <= to;
    }

    private void onePerson(int one) {
        unless(in(one, 0, w.people.size() - 1), BEYOND);
    }

    private Man oneMan(int man) {
        unless(in(man, 0, w.men.size() - 1), BEYOND);
        return w.men.get(man);
    }

    // ---- looked at by ModelTest to choose calls; none of it counts as a call

    int people() {
        return w.people.size();
    }

    int men() {
        return w.men.size();
    }

    List<Integer> mindOf(int man) {
        return in(man, 0, men() - 1) ? new ArrayList<>(w.men.get(man).mind) : new ArrayList<>();
    }

    List<Integer> peopleWith(int man) {
        List<Integer> there = new ArrayList<>();
        for (int one = 0; in(man, 0, men() - 1) && one < people(); one++) {
            if (w.together(man, one)) {
                there.add(one);
            }
        }
        return there;
    }

    // ---- the face

    int person(int bank) {
        return act(() -> {
            unless(in(bank, 0, 1), BEYOND);
            unless(w.people.size() < 8, FULL);
            Person p = new Person();
            p.bank = bank;
            w.people.add(p);
            return w.people.size() - 1;
        });
    }

    int personIs(int one, int what) {
        return act(() -> {
            onePerson(one);
            unless(in(what, 0, 3), BEYOND);
            Person p = w.people.get(one);
            int known = 0;
            for (Man man : w.men) {
                known += man.mind.contains(one) ? 1 : 0;
            }
            int least = one;
            for (int other : w.heap(one)) {
                least = Math.min(least, other);
            }
            return new int[] {p.bank, p.coins, known, least}[what];
        });
    }

    int man(int km, int bank) {
        return act(() -> {
            unless(in(km, 0, 69) && in(bank, 0, 1), BEYOND);
            unless(w.men.size() < 4, FULL);
            Man man = ofKind(km / 10);
            man.k = w.men.size();
            man.m = km % 10;
            man.bank = bank;
            w.men.add(man);
            return man.k;
        });
    }

    int manIs(int number, int what) {
        return act(() -> {
            Man man = oneMan(number);
            unless(in(what, 0, 14), BEYOND);
            if (what >= 7) {
                return what - 7 < man.mind.size() ? man.mind.get(what - 7) : -1;
            }
            return new int[] {man.kind(), man.m, man.bank, man.coins, within(man.keeps(w), 8),
                within(man.fare(w), 99), man.mind.size()}[what];
        });
    }

    int as(int number, int kind) {
        return act(() -> {
            Man man = oneMan(number);
            unless(in(kind, 0, 6), BEYOND);
            unless(classOf(kind).isInstance(man), KIND);
            return man.coins;
        });
    }

    int setMan(int number, int what, int v) {
        return act(() -> {
            Man man = oneMan(number);
            unless(in(what, 0, 2), BEYOND);
            unless(in(v, 0, new int[] {6, 9, 1}[what]), BEYOND);
            int was = new int[] {man.kind(), man.m, man.bank}[what];
            if (what == 0) {
                w.men.set(number, ofKind(v).with(man));
            } else if (what == 1) {
                man.m = v;
            } else {
                man.bank = v;
            }
            return was;
        });
    }

    int setPerson(int one, int what, int v) {
        return act(() -> {
            onePerson(one);
            unless(in(what, 0, 1), BEYOND);
            unless(in(v, 0, what == 0 ? 1 : 9999), BEYOND);
            Person p = w.people.get(one);
            int was = what == 0 ? p.bank : p.coins;
            if (what == 0) {
                p.bank = v;
            } else {
                p.coins = v;
            }
            return was;
        });
    }

    int forget(int number) {
        return act(() -> {
            Man man = oneMan(number);
            int knew = man.mind.size();
            man.mind.clear();
            return knew;
        });
    }

    int feed(long word, int n) {
        return act(() -> {
            unless(in(n, 1, 8), BEYOND);
            unless(w.tape.length() + n <= 60, FULL);
            for (int i = 0; i < n; i++) {
                w.tape += (char) (word >> 8 * i & 0xFF);
            }
            return w.tape.length();
        });
    }

    int text(int use) {
        return act(() -> {
            unless(in(use, 0, 1), BEYOND);
            String text = w.tape;
            w.tape = "";
            int fault = Text.fault(text, use == 0 ? "mtp" : "mkb");
            if (fault >= 0) {
                return -10 - fault;
            }
            w.texts[use] = text;
            return 1;
        });
    }

    int untell(int use) {
        return act(() -> {
            unless(in(use, 0, 1), BEYOND);
            boolean was = w.texts[use] != null;
            w.texts[use] = null;
            return was ? 1 : 0;
        });
    }

    private void mayMeet(World world, int man, int one) {
        oneMan(man);
        onePerson(one);
        unless(world.together(man, one), STATE);
    }

    private void mayCross(int man, int one) {
        mayMeet(w, man, one);
        unless(w.turn < 9999, STATE);
    }

    int cross(int man, int one) {
        return act(() -> {
            mayCross(man, one);
            return w.crossing(man, one);
        });
    }

    int alone(int number) {
        return act(() -> {
            Man man = oneMan(number);
            unless(w.turn < 9999, STATE);
            man.bank ^= 1;
            w.turn++;
            return man.bank;
        });
    }

    int draws(int n) {
        return act(() -> {
            unless(in(n, 1, 60), BEYOND);
            unless(!w.men.isEmpty() && w.turn + n <= 9999, STATE);
            for (int i = 0; i < n; i++) {
                int man = w.draw() % w.men.size();
                List<Integer> there = new ArrayList<>();
                for (int one = 0; one < w.people.size(); one++) {
                    if (w.together(man, one)) {
                        there.add(one);
                    }
                }
                if (there.isEmpty()) {
                    w.men.get(man).bank ^= 1;
                    w.turn++;
                } else {
                    w.crossing(man, there.get(w.draw() % there.size()));
                }
            }
            return w.turn;
        });
    }

    int seed(int v) {
        int was = w.z;
        w.z = v;
        return was;
    }

    int book(int i) {
        return act(() -> {
            unless(in(i, 0, w.book.size() - 1), NONE);
            return 10 * w.book.get(i)[0] + w.book.get(i)[1];
        });
    }

    int debt(int who, int whom, int coins) {
        return act(() -> {
            onePerson(who);
            onePerson(whom);
            unless(who != whom && in(coins, 1, 999), BEYOND);
            unless(w.debts.size() < 8, FULL);
            Debt d = new Debt();
            d.who = who;
            d.whom = whom;
            d.coins = coins;
            w.debts.add(d);
            return w.debts.size() - 1;
        });
    }

    int debtIs(int debt, int what) {
        return act(() -> {
            unless(in(debt, 0, w.debts.size() - 1) && in(what, 0, 3), BEYOND);
            Debt d = w.debts.get(debt);
            return new int[] {d.who, d.whom, d.coins, w.holds(debt) ? 1 : 0}[what];
        });
    }

    int pay(int debt) {
        return act(() -> {
            unless(in(debt, 0, w.debts.size() - 1), BEYOND);
            Debt d = w.debts.get(debt);
            Person who = w.people.get(d.who);
            Person whom = w.people.get(d.whom);
            unless(w.holds(debt) && who.coins > 0, STATE);
            int paid = Math.min(who.coins, d.coins);
            who.coins -= paid;
            whom.coins = Math.min(9999, whom.coins + paid);
            d.coins -= paid;
            if (d.coins == 0) {
                w.debts.remove(debt);
            }
            return paid;
        });
    }

    int loses(int man, int one) {
        return act(() -> {
            mayMeet(w, man, one);
            World then = w.copy();
            then.crossing(man, one);
            int lost = 0;
            for (int debt = 0; debt < w.debts.size(); debt++) {
                if (w.holds(debt) && !then.holds(debt)) {
                    lost++;
                } else if (!w.holds(debt) && then.holds(debt)) {
                    lost--;
                }
            }
            return lost;
        });
    }

    private static boolean isStranger(World world, int one, int man) {
        return world.together(man, one) && !world.men.get(man).mind.contains(one);
    }

    private static boolean strangerBy(World world, int one, int man, int exactly) {
        if (exactly == 0) {
            return isStranger(world, one, man);
        }
        for (int other = 0; other < world.people.size(); other++) {
            if (other != one && world.together(man, other)) {
                World next = world.copy();
                next.crossing(man, other);
                if (strangerBy(next, one, man, exactly - 1)) {
                    return true;
                }
            }
        }
        return false;
    }

    int stranger(int one, int man, int n) {
        return act(() -> {
            onePerson(one);
            oneMan(man);
            unless(in(n, 0, 4), BEYOND);
            for (int exactly = 0; exactly <= n; exactly++) {
                if (strangerBy(w, one, man, exactly)) {
                    return exactly;
                }
            }
            throw new Refusal(NONE);
        });
    }

    private static void allWays(World world, int one, int n, List<Integer> row, int coins, List<int[]> ways) {
        if (row.size() == n) {
            int[] way = new int[n + 1];
            way[0] = coins;
            for (int i = 0; i < n; i++) {
                way[i + 1] = row.get(i);
            }
            ways.add(way);
            return;
        }
        for (int man = 0; man < world.men.size(); man++) {
            if (world.together(man, one)) {
                World next = world.copy();
                int paid = next.crossing(man, one);
                row.add(man);
                allWays(next, one, n, row, coins + paid, ways);
                row.remove(row.size() - 1);
            }
        }
    }

    int way(int one, int n, int i) {
        return act(() -> {
            onePerson(one);
            unless(in(n, 0, 6) && in(i, -1, n - 1), BEYOND);
            World start = w.copy();
            start.people.get(one).coins = 9999;
            List<int[]> ways = new ArrayList<>();
            allWays(start, one, n, new ArrayList<>(), 0, ways);
            unless(!ways.isEmpty(), NONE);
            ways.sort(Arrays::compare);
            return ways.get(0)[i + 1];
        });
    }

    int memory(int man, int one) {
        return act(() -> {
            oneMan(man);
            onePerson(one);
            for (int keeps = 0; keeps <= 8; keeps++) {
                List<Integer> mind = new ArrayList<>();
                for (int i = w.book.size() - 1; i >= 0; i--) {
                    if (w.book.get(i)[0] == man) {
                        mind.remove((Integer) w.book.get(i)[1]);
                        mind.add(0, w.book.get(i)[1]);
                        mind = new ArrayList<>(mind.subList(0, Math.min(keeps, mind.size())));
                    }
                }
                if (mind.contains(one)) {
                    return keeps;
                }
            }
            throw new Refusal(NONE);
        });
    }

    int hearsay(int man, int one) {
        return act(() -> {
            mayMeet(w, man, one);
            World then = w.copy();
            then.crossing(man, one);
            int bits = 0;
            for (int other = 0; other < then.men.size(); other++) {
                bits |= then.men.get(other).mind.contains(one) ? 1 << other : 0;
            }
            return bits;
        });
    }

    private static void allRows(World world, int n, int who, List<List<Integer>> to, int[] found) {
        if (n == 0) {
            if (world.minds().equals(to)) {
                found[0]++;
                found[1] |= who;
            }
            return;
        }
        for (int man = 0; man < world.men.size(); man++) {
            for (int one = 0; one < world.people.size(); one++) {
                if (world.together(man, one)) {
                    World next = world.copy();
                    next.crossing(man, one);
                    allRows(next, n - 1, who | 1 << one, to, found);
                }
            }
        }
    }

    int rows(int n, int what) {
        return act(() -> {
            unless(in(n, 0, 3) && in(what, 0, 1), BEYOND);
            unless(image != null, NONE);
            int[] found = new int[2];
            allRows(image, n, 0, w.minds(), found);
            return found[what];
        });
    }

    int voice(int number, int voice, int x) {
        return act(() -> {
            Man man = oneMan(number);
            unless(in(voice, 0, 3), BEYOND);
            trace = new ArrayList<>();
            return switch (voice) {
                case 0 -> man.rows(x, trace);
                case 1 -> man.keepsVoice(x, trace);
                case 2 -> man.asks(x, trace);
                default -> man.parts(x, trace);
            };
        });
    }

    int body(int i) {
        return act(() -> {
            unless(in(i, 0, trace.size() - 1), NONE);
            return trace.get(i);
        });
    }

    private void oneSheet(int sheet) {
        unless(in(sheet, 0, 3), BEYOND);
    }

    int sheet(int sheet, int width, int n) {
        return act(() -> {
            oneSheet(sheet);
            unless(Set.of(0, 8, 16, 32).contains(width), BEYOND);
            if (width == 0) {
                sheets[sheet] = null;
                return 1;
            }
            unless(n >= 0, STATE);
            unless(n <= 24, BEYOND);
            sheets[sheet] = new int[n];
            bits[sheet] = width;
            return 1;
        });
    }

    int put(int sheet, int i, int v) {
        return act(() -> {
            oneSheet(sheet);
            unless(sheets[sheet] != null, NONE);
            unless(in(i, 0, sheets[sheet].length - 1), BEYOND);
            sheets[sheet][i] = bits[sheet] == 8 ? v & 0xFF : bits[sheet] == 16 ? v & 0xFFFF : v;
            return 1;
        });
    }

    int move(int sheet, int i, int other, int j, int n) {
        return act(() -> {
            oneSheet(sheet);
            oneSheet(other);
            unless(sheets[sheet] != null && sheets[other] != null, NONE);
            unless(bits[sheet] == bits[other], KIND);
            unless(n >= 0 && i >= 0 && j >= 0, BEYOND);
            unless((long) i + n <= sheets[sheet].length && (long) j + n <= sheets[other].length, BEYOND);
            int[] were = sheets[sheet].clone();
            for (int a = 0; a < n; a++) {
                sheets[other][j + a] = were[i + a];
            }
            return n;
        });
    }

    int crossings(int sheet) {
        return act(() -> {
            oneSheet(sheet);
            unless(sheets[sheet] != null, NONE);
            int came = 0;
            for (int i = 0; i + 1 < sheets[sheet].length; i += 2) {
                int man = sheets[sheet][i];
                int one = sheets[sheet][i + 1];
                try {
                    mayCross(man, one);
                } catch (Refusal refusal) {
                    break;
                }
                w.crossing(man, one);
                came++;
            }
            return came;
        });
    }

    int judge(int sheet, int number) {
        return act(() -> {
            oneSheet(sheet);
            Man man = oneMan(number);
            unless(sheets[sheet] != null, NONE);
            for (int i = 0; i < 100; i++) {
                boolean inSheet = i < sheets[sheet].length;
                boolean inMind = i < man.mind.size();
                if (!inSheet && !inMind) {
                    return -1;
                }
                if (inSheet != inMind || sheets[sheet][i] != man.mind.get(i)) {
                    return i;
                }
            }
            return -1;
        });
    }

    int image() {
        image = w.copy();
        return ++images;
    }

    int restore() {
        return act(() -> {
            unless(image != null, NONE);
            w = image.copy();
            return w.turn;
        });
    }

    int tell(int v) {
        return act(() -> {
            unless(w.waiting.size() < 24, FULL);
            w.waiting.add(v);
            return w.waiting.size();
        });
    }

    int check(int number) {
        return act(() -> {
            List<Integer> row = w.waiting;
            w.waiting = new ArrayList<>();
            Man man = oneMan(number);
            for (int i = 0; i < row.size(); i++) {
                if (!man.mind.contains(row.get(i)) || row.indexOf(row.get(i)) < i) {
                    return 1 + i;
                }
            }
            return row.containsAll(man.mind) ? 0 : row.size() + 1;
        });
    }

    int count(int what) {
        return act(() -> {
            unless(in(what, 0, 10), BEYOND);
            int holding = 0;
            for (int debt = 0; debt < w.debts.size(); debt++) {
                holding += w.holds(debt) ? 1 : 0;
            }
            int coins = 0;
            for (Person p : w.people) {
                coins += p.coins;
            }
            for (Man man : w.men) {
                coins += man.coins;
            }
            Map<Integer, Integer> counts = new HashMap<>();
            int[] all = {w.people.size(), w.men.size(), w.turn, w.debts.size(), holding, coins, w.tape.length(),
                w.waiting.size(), Math.min(30, trace.size()), w.z, w.book.size()};
            for (int i = 0; i < all.length; i++) {
                counts.put(i, all[i]);
            }
            return counts.get(what);
        });
    }

    int told(int k) {
        return act(() -> {
            unless(in(k, 1, 6), BEYOND);
            return told[k];
        });
    }
}
