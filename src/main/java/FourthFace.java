import java.util.Arrays;

public final class FourthFace {
    private static final int LOW = -1000000000;
    private static final int BEYOND = 1;
    private static final int NONE = 2;
    private static final int STATE = 3;
    private static final int FULL = 4;
    private static final int KIND = 5;
    private static final int PARTED = 6;

    private static final int BANKS = 2;
    private static final int MOST_PEOPLE = 8;
    private static final int MOST_MEN = 4;
    private static final int LAST_TURN = 9999;
    private static final int MOST_COINS = 9999;
    private static final int MOST_COINS_OF_A_MAN = 999999;
    private static final int MOST_DIGIT = 9;
    private static final int MOST_DRAWS = 60;

    private static final int MAN = 0;
    private static final int LONG = 1;
    private static final int SOFT = 2;
    private static final int BLIND = 3;
    private static final int GOSSIP = 4;
    private static final int PAID = 5;
    private static final int TOLD = 6;
    private static final int KINDS = 7;
    private static final int[] ABOVE = {-1, MAN, MAN, MAN, LONG, SOFT, MAN};

    private static final int KEEPS_USE = 0;
    private static final int FARE_USE = 1;
    private static final int USES = 2;

    private final Law untold = new Law(new int[0]);
    private final Ferry now = new Ferry(untold);
    private final Ferry kept = new Ferry(untold);
    private final WhatIf whatIf = new WhatIf(untold);
    private final Sheets sheets = new Sheets();
    private final Voices voices = new Voices();
    private final int[] refused = new int[PARTED + 1];
    private int images;

    public FourthFace() {
    }

    // ---- people, men

    public int person(int bank) {
        if (!isBank(bank)) {
            return refuse(BEYOND);
        }
        if (now.world.people >= MOST_PEOPLE) {
            return refuse(FULL);
        }
        return now.world.addPerson(bank);
    }

    public int personIs(int person, int what) {
        World world = now.world;
        if (!world.hasPerson(person)) {
            return refuse(BEYOND);
        }
        switch (what) {
            case 0: return world.personBank[person];
            case 1: return world.personCoins[person];
            case 2: return Integer.bitCount(world.bitsOfKnowers(person));
            case 3: return world.leastOfHeap(person);
            default: return refuse(BEYOND);
        }
    }

    public int man(int km, int bank) {
        if (km < 0 || km >= KINDS * 10 || !isBank(bank)) {
            return refuse(BEYOND);
        }
        if (now.world.men >= MOST_MEN) {
            return refuse(FULL);
        }
        return now.world.addMan(km / 10, km % 10, bank);
    }

    public int manIs(int man, int what) {
        World world = now.world;
        if (!world.hasMan(man)) {
            return refuse(BEYOND);
        }
        switch (what) {
            case 0: return world.kind[man];
            case 1: return world.digit[man];
            case 2: return world.manBank[man];
            case 3: return world.manCoins[man];
            case 4: return world.keeps(man);
            case 5: return world.fare(man);
            case 6: return world.known[man];
            default:
                if (what < 7 || what >= 7 + MOST_PEOPLE) {
                    return refuse(BEYOND);
                }
                return world.face(man, what - 7);
        }
    }

    public int as(int man, int kind) {
        if (!now.world.hasMan(man) || !isKind(kind)) {
            return refuse(BEYOND);
        }
        if (!isUnder(now.world.kind[man], kind)) {
            return refuse(KIND);
        }
        return now.world.manCoins[man];
    }

    public int setMan(int man, int what, int v) {
        World world = now.world;
        if (!world.hasMan(man)) {
            return refuse(BEYOND);
        }
        if (what == 0 && isKind(v)) {
            return exchange(world.kind, man, v);
        }
        if (what == 1 && v >= 0 && v <= MOST_DIGIT) {
            return exchange(world.digit, man, v);
        }
        if (what == 2 && isBank(v)) {
            return exchange(world.manBank, man, v);
        }
        return refuse(BEYOND);
    }

    public int setPerson(int person, int what, int v) {
        World world = now.world;
        if (!world.hasPerson(person)) {
            return refuse(BEYOND);
        }
        if (what == 0 && isBank(v)) {
            return exchange(world.personBank, person, v);
        }
        if (what == 1 && v >= 0 && v <= MOST_COINS) {
            return exchange(world.personCoins, person, v);
        }
        return refuse(BEYOND);
    }

    public int forget(int man) {
        if (!now.world.hasMan(man)) {
            return refuse(BEYOND);
        }
        return exchange(now.world.known, man, 0);
    }

    // ---- texts

    public int feed(long word, int n) {
        if (n < 1 || n > 8) {
            return refuse(BEYOND);
        }
        if (now.fed + n > Ferry.TAPE_BYTES) {
            return refuse(FULL);
        }
        for (int i = 0; i < n; i++) {
            now.tape[now.fed] = (int) (word >>> (8 * i)) & 255;
            now.fed++;
        }
        return now.fed;
    }

    public int text(int use) {
        if (!isUse(use)) {
            return refuse(BEYOND);
        }
        Reader reader = new Reader(now.tape, now.fed, use);
        boolean whole = reader.readsAll();
        now.fed = 0;
        if (!whole) {
            return -10 - reader.place();
        }
        now.world.setLaw(use, reader.law());
        return 1;
    }

    public int untell(int use) {
        if (!isUse(use)) {
            return refuse(BEYOND);
        }
        boolean was = now.world.law(use).isTold();
        now.world.setLaw(use, untold);
        return was ? 1 : 0;
    }

    // ---- crossings

    public int cross(int man, int person) {
        int refusal = refusalOfCrossing(man, person);
        if (refusal != 0) {
            return refuse(refusal);
        }
        return now.carryAndBook(man, person);
    }

    public int alone(int man) {
        if (!now.world.hasMan(man)) {
            return refuse(BEYOND);
        }
        if (now.world.turn >= LAST_TURN) {
            return refuse(STATE);
        }
        now.world.rowOver(man);
        return now.world.manBank[man];
    }

    public int draws(int n) {
        if (n < 1 || n > MOST_DRAWS) {
            return refuse(BEYOND);
        }
        if (now.world.men == 0 || now.world.turn + n > LAST_TURN) {
            return refuse(STATE);
        }
        for (int i = 0; i < n; i++) {
            now.crossByDraw();
        }
        return now.world.turn;
    }

    public int seed(int v) {
        int was = now.z;
        now.z = v;
        return was;
    }

    public int book(int i) {
        if (i < 0 || i >= now.booked) {
            return refuse(NONE);
        }
        return now.tollBook[i];
    }

    // ---- debts

    public int debt(int who, int whom, int coins) {
        World world = now.world;
        if (!world.hasPerson(who) || !world.hasPerson(whom) || who == whom) {
            return refuse(BEYOND);
        }
        if (coins < 1 || coins > Debts.MOST_OWED) {
            return refuse(BEYOND);
        }
        if (now.debts.size >= Debts.MOST) {
            return refuse(FULL);
        }
        return now.debts.add(who, whom, coins);
    }

    public int debtIs(int debt, int what) {
        Debts debts = now.debts;
        if (debt < 0 || debt >= debts.size) {
            return refuse(BEYOND);
        }
        switch (what) {
            case 0: return debts.ower[debt];
            case 1: return debts.owed[debt];
            case 2: return debts.coins[debt];
            case 3: return debts.holds(debt, now.world) ? 1 : 0;
            default: return refuse(BEYOND);
        }
    }

    public int pay(int debt) {
        Debts debts = now.debts;
        World world = now.world;
        if (debt < 0 || debt >= debts.size) {
            return refuse(BEYOND);
        }
        int ower = debts.ower[debt];
        int owed = debts.owed[debt];
        if (!debts.holds(debt, world) || world.personCoins[ower] == 0) {
            return refuse(STATE);
        }
        int paid = Math.min(debts.coins[debt], world.personCoins[ower]);
        world.personCoins[ower] -= paid;
        world.personCoins[owed] = Math.min(world.personCoins[owed] + paid, MOST_COINS);
        debts.lessen(debt, paid);
        return paid;
    }

    public int loses(int man, int person) {
        int refusal = refusalOfMeeting(man, person);
        if (refusal != 0) {
            return refuse(refusal);
        }
        World behind = whatIf.behindOne(now.world, man, person);
        return now.debts.holding(now.world) - now.debts.holding(behind);
    }

    // ---- what would be

    public int stranger(int person, int man, int n) {
        if (!now.world.hasPerson(person) || !now.world.hasMan(man)) {
            return refuse(BEYOND);
        }
        if (n < 0 || n > WhatIf.MOST_HIRED) {
            return refuse(BEYOND);
        }
        int fewest = whatIf.fewestHired(now.world, person, man, n);
        return fewest > n ? refuse(NONE) : fewest;
    }

    public int way(int person, int n, int i) {
        if (!now.world.hasPerson(person) || n < 0 || n > WhatIf.LONGEST_WAY) {
            return refuse(BEYOND);
        }
        if (i < -1 || i >= n) {
            return refuse(BEYOND);
        }
        if (!whatIf.findsWay(now.world, person, n)) {
            return refuse(NONE);
        }
        return i < 0 ? whatIf.cheapest : whatIf.cheapestRow[i];
    }

    public int memory(int man, int person) {
        if (!now.world.hasMan(man) || !now.world.hasPerson(person)) {
            return refuse(BEYOND);
        }
        int least = now.facesBackTo(man, person);
        return least > MOST_PEOPLE ? refuse(NONE) : least;
    }

    public int hearsay(int man, int person) {
        int refusal = refusalOfMeeting(man, person);
        if (refusal != 0) {
            return refuse(refusal);
        }
        return whatIf.behindOne(now.world, man, person).bitsOfKnowers(person);
    }

    public int rows(int n, int what) {
        if (n < 0 || n > WhatIf.LONGEST_ROW || what < 0 || what > 1) {
            return refuse(BEYOND);
        }
        if (images == 0) {
            return refuse(NONE);
        }
        whatIf.findRows(kept.world, now.world, n);
        return what == 0 ? whatIf.rowsFound : whatIf.crossedInThem;
    }

    // ---- voices, sheets, images, what is told

    public int voice(int man, int voice, int x) {
        World world = now.world;
        if (!world.hasMan(man) || voice < 0 || voice >= Voices.VOICES) {
            return refuse(BEYOND);
        }
        int answer = voices.speak(world.kind[man], world.digit[man], man, voice, x);
        return voices.parted ? refuse(PARTED) : answer;
    }

    public int body(int i) {
        if (i < 0 || i >= voices.traced) {
            return refuse(NONE);
        }
        return voices.trace[i];
    }

    public int sheet(int sheet, int bits, int n) {
        if (!sheets.isOne(sheet) || !sheets.isWidth(bits)) {
            return refuse(BEYOND);
        }
        if (bits != Sheets.MISSING && n < 0) {
            return refuse(STATE);
        }
        if (bits != Sheets.MISSING && n > Sheets.MOST_NUMBERS) {
            return refuse(BEYOND);
        }
        sheets.layOut(sheet, bits, bits == Sheets.MISSING ? 0 : n);
        return 1;
    }

    public int put(int sheet, int i, int v) {
        if (!sheets.isOne(sheet)) {
            return refuse(BEYOND);
        }
        if (sheets.isMissing(sheet)) {
            return refuse(NONE);
        }
        if (i < 0 || i >= sheets.size[sheet]) {
            return refuse(BEYOND);
        }
        sheets.write(sheet, i, v);
        return 1;
    }

    public int move(int sheet, int i, int other, int j, int n) {
        if (!sheets.isOne(sheet) || !sheets.isOne(other)) {
            return refuse(BEYOND);
        }
        if (sheets.isMissing(sheet) || sheets.isMissing(other)) {
            return refuse(NONE);
        }
        if (sheets.width[sheet] != sheets.width[other]) {
            return refuse(KIND);
        }
        if (!sheets.stand(sheet, i, n) || !sheets.stand(other, j, n)) {
            return refuse(BEYOND);
        }
        System.arraycopy(sheets.numbers[sheet], i, sheets.numbers[other], j, n);
        return n;
    }

    public int crossings(int sheet) {
        if (!sheets.isOne(sheet)) {
            return refuse(BEYOND);
        }
        if (sheets.isMissing(sheet)) {
            return refuse(NONE);
        }
        int[] numbers = sheets.numbers[sheet];
        int came = 0;
        for (int i = 0; i + 1 < sheets.size[sheet]; i += 2) {
            if (refusalOfCrossing(numbers[i], numbers[i + 1]) != 0) {
                return came;
            }
            now.carryAndBook(numbers[i], numbers[i + 1]);
            came++;
        }
        return came;
    }

    public int judge(int sheet, int man) {
        if (!sheets.isOne(sheet) || !now.world.hasMan(man)) {
            return refuse(BEYOND);
        }
        if (sheets.isMissing(sheet)) {
            return refuse(NONE);
        }
        int size = sheets.size[sheet];
        int known = now.world.known[man];
        int common = Math.min(size, known);
        for (int i = 0; i < common; i++) {
            if (sheets.numbers[sheet][i] != now.world.face(man, i)) {
                return i;
            }
        }
        return size == known ? -1 : common;
    }

    public int image() {
        kept.copyFrom(now);
        images++;
        return images;
    }

    public int restore() {
        if (images == 0) {
            return refuse(NONE);
        }
        now.copyFrom(kept);
        return now.world.turn;
    }

    public int tell(int v) {
        if (now.waiting >= Ferry.MOST_WAITING) {
            return refuse(FULL);
        }
        now.waits[now.waiting] = v;
        now.waiting++;
        return now.waiting;
    }

    public int check(int man) {
        int told = now.waiting;
        now.waiting = 0;
        if (!now.world.hasMan(man)) {
            return refuse(BEYOND);
        }
        int seen = 0;
        for (int i = 0; i < told; i++) {
            int face = now.waits[i];
            if (!now.world.knows(man, face) || (seen >> face & 1) == 1) {
                return 1 + i;
            }
            seen |= 1 << face;
        }
        return told < now.world.known[man] ? told + 1 : 0;
    }

    public int count(int what) {
        switch (what) {
            case 0: return now.world.people;
            case 1: return now.world.men;
            case 2: return now.world.turn;
            case 3: return now.debts.size;
            case 4: return now.debts.holding(now.world);
            case 5: return now.world.allCoins();
            case 6: return now.fed;
            case 7: return now.waiting;
            case 8: return voices.traced;
            case 9: return now.z;
            case 10: return now.booked;
            default: return refuse(BEYOND);
        }
    }

    public int told(int k) {
        if (k < BEYOND || k > PARTED) {
            return refuse(BEYOND);
        }
        return refused[k];
    }

    // ---- what the acts share

    private int refuse(int error) {
        refused[error]++;
        return LOW - error;
    }

    private int refusalOfMeeting(int man, int person) {
        World world = now.world;
        if (!world.hasMan(man) || !world.hasPerson(person)) {
            return BEYOND;
        }
        return world.meet(man, person) ? 0 : STATE;
    }

    private int refusalOfCrossing(int man, int person) {
        int refusal = refusalOfMeeting(man, person);
        if (refusal == 0 && now.world.turn >= LAST_TURN) {
            return STATE;
        }
        return refusal;
    }

    private static int exchange(int[] row, int i, int v) {
        int was = row[i];
        row[i] = v;
        return was;
    }

    private static boolean isBank(int bank) {
        return bank >= 0 && bank < BANKS;
    }

    private static boolean isKind(int kind) {
        return kind >= 0 && kind < KINDS;
    }

    private static boolean isUse(int use) {
        return use >= 0 && use < USES;
    }

    private static boolean isUnder(int kind, int above) {
        int one = kind;
        for (int i = 0; i < KINDS && one >= 0; i++) {
            if (one == above) {
                return true;
            }
            one = ABOVE[one];
        }
        return false;
    }

    private static int held(int value, int most) {
        return Math.max(0, Math.min(value, most));
    }

    /** Only what a crossing reads and changes, apart from Ferry, so that what would be is tried on small copies. */
    private static final class World {
        private static final int FIRST_COINS = 20;
        private static final int PLAIN_KEEPS = 3;
        private static final int PLAIN_FARE = 2;
        private static final int MOST_KEEPS = 8;
        private static final int MOST_FARE = 99;

        int turn;
        int people;
        int men;
        final int[] personBank = new int[MOST_PEOPLE];
        final int[] personCoins = new int[MOST_PEOPLE];
        final int[] kind = new int[MOST_MEN];
        final int[] digit = new int[MOST_MEN];
        final int[] manBank = new int[MOST_MEN];
        final int[] manCoins = new int[MOST_MEN];
        final int[] known = new int[MOST_MEN];
        private final int[] minds = new int[MOST_MEN * MOST_PEOPLE];
        private Law keepsLaw;
        private Law fareLaw;

        World(Law untold) {
            keepsLaw = untold;
            fareLaw = untold;
        }

        void copyFrom(World other) {
            turn = other.turn;
            people = other.people;
            men = other.men;
            System.arraycopy(other.personBank, 0, personBank, 0, MOST_PEOPLE);
            System.arraycopy(other.personCoins, 0, personCoins, 0, MOST_PEOPLE);
            System.arraycopy(other.kind, 0, kind, 0, MOST_MEN);
            System.arraycopy(other.digit, 0, digit, 0, MOST_MEN);
            System.arraycopy(other.manBank, 0, manBank, 0, MOST_MEN);
            System.arraycopy(other.manCoins, 0, manCoins, 0, MOST_MEN);
            System.arraycopy(other.known, 0, known, 0, MOST_MEN);
            System.arraycopy(other.minds, 0, minds, 0, MOST_MEN * MOST_PEOPLE);
            keepsLaw = other.keepsLaw;
            fareLaw = other.fareLaw;
        }

        boolean hasPerson(int person) {
            return person >= 0 && person < people;
        }

        boolean hasMan(int man) {
            return man >= 0 && man < men;
        }

        int addPerson(int bank) {
            int person = people;
            personBank[person] = bank;
            personCoins[person] = FIRST_COINS;
            people++;
            return person;
        }

        int addMan(int itsKind, int itsDigit, int bank) {
            int man = men;
            kind[man] = itsKind;
            digit[man] = itsDigit;
            manBank[man] = bank;
            manCoins[man] = 0;
            known[man] = 0;
            men++;
            return man;
        }

        Law law(int use) {
            return use == KEEPS_USE ? keepsLaw : fareLaw;
        }

        void setLaw(int use, Law law) {
            if (use == KEEPS_USE) {
                keepsLaw = law;
            } else {
                fareLaw = law;
            }
        }

        int keeps(int man) {
            int m = digit[man];
            int faces;
            switch (kind[man]) {
                case LONG: faces = PLAIN_KEEPS + m; break;
                case BLIND: faces = 0; break;
                case GOSSIP: faces = PLAIN_KEEPS + m - 1; break;
                case TOLD: faces = keepsLaw.isTold() ? keepsLaw.value(m, turn, people) : m; break;
                default: faces = PLAIN_KEEPS;
            }
            return held(faces, MOST_KEEPS);
        }

        int fare(int man) {
            int m = digit[man];
            int k = known[man];
            int coins;
            switch (kind[man]) {
                case SOFT:
                case PAID: coins = (PLAIN_FARE + m) / 2; break;
                case BLIND: coins = 1; break;
                case GOSSIP: coins = PLAIN_FARE + m + 1; break;
                case TOLD: coins = fareLaw.isTold() ? fareLaw.value(m, k, manBank[man]) : m + k; break;
                default: coins = PLAIN_FARE + m;
            }
            return held(coins, MOST_FARE);
        }

        int face(int man, int place) {
            return place < known[man] ? minds[man * MOST_PEOPLE + place] : -1;
        }

        private int placeOf(int man, int person) {
            for (int i = 0; i < known[man]; i++) {
                if (minds[man * MOST_PEOPLE + i] == person) {
                    return i;
                }
            }
            return -1;
        }

        boolean knows(int man, int person) {
            return placeOf(man, person) >= 0;
        }

        private int bitsOfFaces(int man) {
            int bits = 0;
            for (int i = 0; i < known[man]; i++) {
                bits |= 1 << minds[man * MOST_PEOPLE + i];
            }
            return bits;
        }

        int bitsOfKnowers(int person) {
            int bits = 0;
            for (int man = 0; man < men; man++) {
                if (knows(man, person)) {
                    bits |= 1 << man;
                }
            }
            return bits;
        }

        int bitsOfHeap(int person) {
            int heap = 1 << person;
            // One round joins at least one more man's faces, or none is left to join.
            for (int round = 0; round < men; round++) {
                for (int man = 0; man < men; man++) {
                    int faces = bitsOfFaces(man);
                    if ((faces & heap) != 0) {
                        heap |= faces;
                    }
                }
            }
            return heap;
        }

        int leastOfHeap(int person) {
            int heap = bitsOfHeap(person);
            for (int one = 0; one < person; one++) {
                if ((heap >> one & 1) == 1) {
                    return one;
                }
            }
            return person;
        }

        int allCoins() {
            int all = 0;
            for (int person = 0; person < people; person++) {
                all += personCoins[person];
            }
            for (int man = 0; man < men; man++) {
                all += manCoins[man];
            }
            return all;
        }

        boolean meet(int man, int person) {
            return manBank[man] == personBank[person];
        }

        int howManyWith(int man) {
            int there = 0;
            for (int person = 0; person < people; person++) {
                if (meet(man, person)) {
                    there++;
                }
            }
            return there;
        }

        int oneWith(int man, int howManyAhead) {
            int left = howManyAhead;
            for (int person = 0; person < people; person++) {
                if (meet(man, person)) {
                    if (left == 0) {
                        return person;
                    }
                    left--;
                }
            }
            return 0;
        }

        void rowOver(int man) {
            manBank[man] = 1 - manBank[man];
            turn++;
        }

        int carry(int man, int person) {
            int paid = 0;
            boolean paidUp = false;
            if (knows(man, person)) {
                int fare = fare(man);
                paid = Math.min(fare, personCoins[person]);
                paidUp = fare > 0 && paid == fare;
                personCoins[person] -= paid;
                manCoins[man] = Math.min(manCoins[man] + paid, MOST_COINS_OF_A_MAN);
            }
            personBank[person] = 1 - personBank[person];
            manBank[man] = 1 - manBank[man];
            if (paidUp && kind[man] == PAID) {
                loseFace(man, person);
            } else {
                faceComes(man, person);
            }
            boolean gossips = isUnder(kind[man], GOSSIP);
            for (int other = 0; gossips && other < men; other++) {
                if (other != man && manBank[other] == manBank[man]) {
                    faceComes(other, person);
                }
            }
            // Keeps and fares of this crossing read the turn ahead of it.
            turn++;
            return paid;
        }

        private void faceComes(int man, int person) {
            int first = man * MOST_PEOPLE;
            int place = placeOf(man, person);
            // No more than eight people are there, so an unknown one finds a mind of seven at most.
            int ahead = place >= 0 ? place : Math.min(known[man], MOST_PEOPLE - 1);
            System.arraycopy(minds, first, minds, first + 1, ahead);
            minds[first] = person;
            int faces = place >= 0 ? known[man] : ahead + 1;
            known[man] = Math.min(faces, keeps(man));
        }

        private void loseFace(int man, int person) {
            int first = man * MOST_PEOPLE;
            int place = placeOf(man, person);
            if (place >= 0) {
                int behind = known[man] - place - 1;
                System.arraycopy(minds, first + place + 1, minds, first + place, behind);
                known[man]--;
            }
        }

        int bitsOfUnlikeMinds(World other) {
            int bits = 0;
            for (int man = 0; man < men; man++) {
                if (!isMindLike(man, other)) {
                    bits |= 1 << man;
                }
            }
            return bits;
        }

        private boolean isMindLike(int man, World other) {
            if (known[man] != other.known[man]) {
                return false;
            }
            for (int i = 0; i < known[man]; i++) {
                if (face(man, i) != other.face(man, i)) {
                    return false;
                }
            }
            return true;
        }

        boolean hasGossip() {
            for (int man = 0; man < men; man++) {
                if (isUnder(kind[man], GOSSIP)) {
                    return true;
                }
            }
            return false;
        }
    }

    private static final class Debts {
        static final int MOST = 8;
        static final int MOST_OWED = 999;

        int size;
        final int[] ower = new int[MOST];
        final int[] owed = new int[MOST];
        final int[] coins = new int[MOST];

        void copyFrom(Debts other) {
            size = other.size;
            System.arraycopy(other.ower, 0, ower, 0, MOST);
            System.arraycopy(other.owed, 0, owed, 0, MOST);
            System.arraycopy(other.coins, 0, coins, 0, MOST);
        }

        int add(int who, int whom, int howMany) {
            int debt = size;
            ower[debt] = who;
            owed[debt] = whom;
            coins[debt] = howMany;
            size++;
            return debt;
        }

        boolean holds(int debt, World world) {
            return (world.bitsOfHeap(ower[debt]) >> owed[debt] & 1) == 1;
        }

        int holding(World world) {
            int many = 0;
            for (int debt = 0; debt < size; debt++) {
                if (holds(debt, world)) {
                    many++;
                }
            }
            return many;
        }

        void lessen(int debt, int paid) {
            coins[debt] -= paid;
            if (coins[debt] == 0) {
                int behind = size - debt - 1;
                System.arraycopy(ower, debt + 1, ower, debt, behind);
                System.arraycopy(owed, debt + 1, owed, debt, behind);
                System.arraycopy(coins, debt + 1, coins, debt, behind);
                size--;
            }
        }
    }

    /** An image keeps a Ferry whole, so what no image keeps must stand elsewhere. */
    private static final class Ferry {
        static final int TAPE_BYTES = 60;
        static final int MOST_WAITING = 24;
        private static final int BOOK_ROWS = 24;

        final World world;
        final Debts debts = new Debts();
        final int[] tape = new int[TAPE_BYTES];
        int fed;
        final int[] waits = new int[MOST_WAITING];
        int waiting;
        /** Its rows stand as book() answers them, 10 times the man and the one, the latest first. */
        final int[] tollBook = new int[BOOK_ROWS];
        int booked;
        int z = 1;

        Ferry(Law untold) {
            world = new World(untold);
        }

        void copyFrom(Ferry other) {
            world.copyFrom(other.world);
            debts.copyFrom(other.debts);
            System.arraycopy(other.tape, 0, tape, 0, TAPE_BYTES);
            fed = other.fed;
            System.arraycopy(other.waits, 0, waits, 0, MOST_WAITING);
            waiting = other.waiting;
            System.arraycopy(other.tollBook, 0, tollBook, 0, BOOK_ROWS);
            booked = other.booked;
            z = other.z;
        }

        int carryAndBook(int man, int person) {
            System.arraycopy(tollBook, 0, tollBook, 1, BOOK_ROWS - 1);
            tollBook[0] = 10 * man + person;
            booked = Math.min(booked + 1, BOOK_ROWS);
            return world.carry(man, person);
        }

        void crossByDraw() {
            if (world.men == 0) {
                return;
            }
            int man = draw() % world.men;
            int there = world.howManyWith(man);
            if (there == 0) {
                world.rowOver(man);
            } else {
                carryAndBook(man, world.oneWith(man, draw() % there));
            }
        }

        private int draw() {
            z = z * 1103515245 + 12345;
            return z >>> 8;
        }

        /** So many faces had to be kept: those of the man's rows from the latest back to the one's. */
        int facesBackTo(int man, int person) {
            int seen = 0;
            for (int i = 0; i < booked; i++) {
                if (tollBook[i] / 10 == man) {
                    int face = tollBook[i] % 10;
                    seen |= 1 << face;
                    if (face == person) {
                        return Integer.bitCount(seen);
                    }
                }
            }
            return MOST_PEOPLE + 1;
        }
    }

    /** Its worlds are made once and used again by every call, since all calls live in one room. */
    private static final class WhatIf {
        static final int MOST_HIRED = 4;
        static final int LONGEST_WAY = 6;
        static final int LONGEST_ROW = 3;
        private static final int NO_WAY = 1000000;

        private final World[] behind = new World[LONGEST_WAY + 1];
        private int fewest;
        int cheapest;
        final int[] cheapestRow = new int[LONGEST_WAY];
        private final int[] triedRow = new int[LONGEST_WAY];
        private boolean gossips;
        int rowsFound;
        int crossedInThem;

        WhatIf(Law untold) {
            for (int i = 0; i <= LONGEST_WAY; i++) {
                behind[i] = new World(untold);
            }
        }

        World behindOne(World world, int man, int person) {
            behind[0].copyFrom(world);
            behind[0].carry(man, person);
            return behind[0];
        }

        int fewestHired(World world, int person, int man, int n) {
            behind[0].copyFrom(world);
            // Stays if n are too few.
            fewest = n + 1;
            hire(this, person, man, 0);
            return fewest;
        }

        private static void hire(WhatIf tried, int person, int man, int hired) {
            World here = tried.behind[hired];
            if (here.meet(man, person) && !here.knows(man, person)) {
                tried.fewest = hired;
                return;
            }
            if (hired + 1 >= tried.fewest || hired >= MOST_HIRED) {
                return;
            }
            World next = tried.behind[hired + 1];
            for (int other = 0; other < here.people; other++) {
                if (other != person && here.meet(man, other)) {
                    next.copyFrom(here);
                    next.carry(man, other);
                    hire(tried, person, man, hired + 1);
                }
            }
        }

        boolean findsWay(World world, int person, int n) {
            behind[0].copyFrom(world);
            behind[0].personCoins[person] = MOST_COINS;
            cheapest = NO_WAY;
            ride(this, person, n, 0, 0);
            return cheapest < NO_WAY;
        }

        private static void ride(WhatIf tried, int person, int n, int ridden, int coins) {
            // A row that comes later must be cheaper: of several the first stands.
            if (coins >= tried.cheapest) {
                return;
            }
            if (ridden >= n || ridden >= LONGEST_WAY) {
                tried.cheapest = coins;
                System.arraycopy(tried.triedRow, 0, tried.cheapestRow, 0, LONGEST_WAY);
                return;
            }
            World here = tried.behind[ridden];
            World next = tried.behind[ridden + 1];
            for (int man = 0; man < here.men; man++) {
                if (here.meet(man, person)) {
                    next.copyFrom(here);
                    int paid = next.carry(man, person);
                    tried.triedRow[ridden] = man;
                    ride(tried, person, n, ridden + 1, coins + paid);
                }
            }
        }

        void findRows(World from, World to, int n) {
            rowsFound = 0;
            crossedInThem = 0;
            if (from.men != to.men) {
                return;
            }
            behind[0].copyFrom(from);
            gossips = from.hasGossip();
            follow(this, to, n, 0, 0);
        }

        private static void follow(WhatIf tried, World to, int n, int gone, int crossed) {
            World here = tried.behind[gone];
            int unlike = here.bitsOfUnlikeMinds(to);
            if (gone >= n || gone >= LONGEST_ROW) {
                if (unlike == 0) {
                    tried.rowsFound++;
                    tried.crossedInThem |= crossed;
                }
                return;
            }
            World next = tried.behind[gone + 1];
            for (int man = 0; man < here.men; man++) {
                // Without gossip a crossing mends one mind, so those of too many others can't be mended in time.
                int others = Integer.bitCount(unlike & ~(1 << man));
                if (!tried.gossips && others > n - gone - 1) {
                    continue;
                }
                for (int person = 0; person < here.people; person++) {
                    if (here.meet(man, person)) {
                        next.copyFrom(here);
                        next.carry(man, person);
                        follow(tried, to, n, gone + 1, crossed | 1 << person);
                    }
                }
            }
        }
    }

    /** Its signs stand behind what they join, so that every crossing that asks it goes through one row once. */
    private static final class Law {
        static final int NAMES = 3;
        /** Names, signs and numbers stand in one row: names lowest, numbers above all signs. */
        static final int NUMBER = 256;

        private final int[] code;
        private final int[] stack;

        Law(int[] code) {
            this.code = code;
            this.stack = new int[code.length];
        }

        boolean isTold() {
            return code.length > 0;
        }

        int value(int first, int second, int third) {
            int top = 0;
            for (int i = 0; i < code.length; i++) {
                int sign = code[i];
                if (sign >= NUMBER) {
                    stack[top] = sign - NUMBER;
                    top++;
                } else if (sign < NAMES) {
                    stack[top] = sign == 0 ? first : sign == 1 ? second : third;
                    top++;
                } else if (sign == '!' && top >= 1) {
                    stack[top - 1] = stack[top - 1] == 0 ? 1 : 0;
                } else if (top >= 2) {
                    top--;
                    stack[top - 1] = join(sign, stack[top - 1], stack[top]);
                }
            }
            return top > 0 ? stack[0] : 0;
        }

        private static int join(int sign, int left, int right) {
            switch (sign) {
                case '|': return left != 0 || right != 0 ? 1 : 0;
                case '&': return left != 0 && right != 0 ? 1 : 0;
                case '<': return left < right ? 1 : 0;
                case '=': return left == right ? 1 : 0;
                case '>': return left > right ? 1 : 0;
                case '+': return left + right;
                case '-': return left - right;
                case '*': return left * right;
                case '/': return right == 0 ? 0 : left / right;
                default: return right == 0 ? 0 : left % right;
            }
        }
    }

    /** Each byte is decided as it is met, so the place where a reader is lost is the fault. */
    private static final class Reader {
        private static final int MOST_OPEN = 5;
        private static final int MOST_DIGITS = 4;
        /** Signs of a higher level bind tighter; those that compare stand once between two sums. */
        private static final int LEVELS = 5;
        private static final int COMPARED = 2;

        private final int[] tape;
        private final int length;
        private final int use;
        private final int[] code;
        private int size;
        private int at;
        private boolean lost;

        Reader(int[] tape, int length, int use) {
            this.tape = tape;
            this.length = length;
            this.use = use;
            this.code = new int[length];
        }

        boolean readsAll() {
            readJoined(0, 0);
            return !lost && at == length;
        }

        int place() {
            return at;
        }

        Law law() {
            return new Law(Arrays.copyOf(code, size));
        }

        private void readJoined(int level, int open) {
            if (level >= LEVELS) {
                readOne(open);
                return;
            }
            readJoined(level + 1, open);
            int most = level == COMPARED ? 1 : length;
            for (int left = most; left > 0 && joinsAt(level); left--) {
                int sign = tape[at];
                at++;
                readJoined(level + 1, open);
                write(sign);
            }
        }

        private boolean joinsAt(int level) {
            return !lost && at < length && levelOf(tape[at]) == level;
        }

        private static int levelOf(int sign) {
            switch (sign) {
                case '|': return 0;
                case '&': return 1;
                case '<':
                case '=':
                case '>': return COMPARED;
                case '+':
                case '-': return 3;
                case '*':
                case '/':
                case '%': return 4;
                default: return -1;
            }
        }

        private void readOne(int open) {
            if (seesDigit()) {
                readNumber();
            } else if (at < length && nameOf(tape[at]) >= 0) {
                write(nameOf(tape[at]));
                at++;
            } else if (sees('!') && open < MOST_OPEN) {
                at++;
                readOne(open + 1);
                write('!');
            } else if (sees('(') && open < MOST_OPEN) {
                at++;
                readJoined(0, open + 1);
                close();
            } else {
                lost = true;
            }
        }

        private void close() {
            if (sees(')')) {
                at++;
            } else {
                lost = true;
            }
        }

        private void readNumber() {
            int number = 0;
            for (int digits = 0; digits < MOST_DIGITS && seesDigit(); digits++) {
                number = number * 10 + tape[at] - '0';
                at++;
            }
            write(Law.NUMBER + number);
        }

        private int nameOf(int sign) {
            if (sign == 'm') {
                return 0;
            }
            if (sign == (use == FARE_USE ? 'k' : 't')) {
                return 1;
            }
            return sign == (use == FARE_USE ? 'b' : 'p') ? 2 : -1;
        }

        private boolean seesDigit() {
            return !lost && at < length && tape[at] >= '0' && tape[at] <= '9';
        }

        private boolean sees(int sign) {
            return !lost && at < length && tape[at] == sign;
        }

        private void write(int sign) {
            if (size < code.length) {
                code[size] = sign;
                size++;
            }
        }
    }

    private static final class Voices {
        static final int VOICES = 4;
        private static final int ROWS = 0;
        private static final int KEEPS = 1;
        private static final int ASKS = 2;
        private static final int PARTS = 3;
        private static final int DEEPEST = 30;
        private static final int LONGEST_TRACE = 30;
        /** Four of each kind, 0 where it has no body of its own. */
        private static final int[] BODIES = {
            10, 11, 12, 13,
            20, 0, 0, 21,
            0, 30, 0, 0,
            0, 0, 40, 0,
            50, 0, 51, 0,
            0, 60, 0, 0,
            70, 71, 0, 0,
        };

        final int[] trace = new int[LONGEST_TRACE];
        int traced;
        boolean parted;
        private int kind;
        private int m;
        private int k;

        int speak(int itsKind, int itsDigit, int itsNumber, int voice, int x) {
            kind = itsKind;
            m = itsDigit;
            k = itsNumber;
            traced = 0;
            parted = false;
            return say(this, kind, voice, x, 0);
        }

        private static int say(Voices of, int from, int voice, int x, int depth) {
            int body = bodyFrom(from, voice);
            if (body == 0 || depth >= DEEPEST) {
                return 0;
            }
            of.begin(body);
            int up = ABOVE[body / 10 - 1];
            int next = depth + 1;
            switch (body) {
                case 10: return x + of.k;
                case 11: return say(of, of.kind, ROWS, x, next) * 2;
                case 12: return say(of, of.kind, KEEPS, x, next) - of.m;
                case 13: return of.part(x);
                case 20: return say(of, up, ROWS, x, next) - 5;
                case 21: {
                    // What is parted ends the voice: no body begins behind it.
                    int parts = say(of, up, PARTS, x, next);
                    return of.parted ? 0 : parts + say(of, of.kind, KEEPS, 1, next);
                }
                case 30: return -say(of, up, KEEPS, x, next);
                case 40: return say(of, up, ASKS, x / 2, next);
                case 50: return say(of, up, ROWS, x, next) * 3;
                case 51: return say(of, up, ASKS, x, next) ^ of.k;
                case 60: return say(of, up, KEEPS, x + 1, next);
                case 70: return 3;
                case 71: return say(of, up, KEEPS, x, next) + of.m;
                default: return 0;
            }
        }

        private static int bodyFrom(int from, int voice) {
            int one = from;
            for (int i = 0; i < KINDS && one >= 0; i++) {
                int body = BODIES[one * VOICES + voice];
                if (body != 0) {
                    return body;
                }
                one = ABOVE[one];
            }
            return 0;
        }

        private void begin(int body) {
            if (traced < LONGEST_TRACE) {
                trace[traced] = body;
                traced++;
            }
        }

        private int part(int x) {
            int by = m - k;
            if (by == 0) {
                parted = true;
                return 0;
            }
            return x / by;
        }
    }

    private static final class Sheets {
        static final int MISSING = 0;
        static final int MOST_NUMBERS = 24;
        private static final int SHEETS = 4;

        final int[] width = new int[SHEETS];
        final int[] size = new int[SHEETS];
        final int[][] numbers = new int[SHEETS][MOST_NUMBERS];

        boolean isOne(int sheet) {
            return sheet >= 0 && sheet < SHEETS;
        }

        boolean isWidth(int bits) {
            return bits == MISSING || bits == 8 || bits == 16 || bits == 32;
        }

        boolean isMissing(int sheet) {
            return width[sheet] == MISSING;
        }

        void layOut(int sheet, int bits, int n) {
            width[sheet] = bits;
            size[sheet] = n;
            Arrays.fill(numbers[sheet], 0);
        }

        void write(int sheet, int i, int v) {
            switch (width[sheet]) {
                case 8: numbers[sheet][i] = (byte) v; break;
                case 16: numbers[sheet][i] = (short) v; break;
                default: numbers[sheet][i] = v;
            }
        }

        boolean stand(int sheet, int i, int n) {
            return n >= 0 && i >= 0 && n <= size[sheet] && i <= size[sheet] - n;
        }
    }
}
