import java.util.Arrays;

/**
 * A parish whose farms draw from one well by a bucket that gives each person what it thinks they
 * deserve. Every row is made with the object and used again, so that calls make no objects.
 */
public final class BucketGift {
    private static final int BEYOND = 0;
    private static final int FULL = 1;
    private static final int KIND = 2;
    private static final int NONE = 3;
    private static final int STATE = 4;
    private static final int MISSING = 5;
    private static final int SIZE = 6;
    private static final int FINDINGS = 7;
    private static final int FIRST_FINDING = -1000000001;

    private static final int MOST_DAYS = 60;
    private static final int MOST_DAYS_OF_CHOICE = 20;
    private static final int MOST_DAYS_OF_ROUND = 7;
    private static final int MOST_DESERVED = 15;
    private static final int MOST_ENOUGH = 400;
    private static final int SHEETS = 4;
    // Far above any DRY and any number of DEEDS.
    private static final int NO_BOUND = 1000000;

    private final int[] told = new int[FINDINGS];
    private final Parish here = new Parish();
    private final Parish trial = new Parish();
    private final Parish kept = new Parish();
    private boolean isKept = false;
    private final Tape tape = new Tape();
    private final ParishText text = new ParishText();
    private final Sheet[] sheets = new Sheet[SHEETS];

    public BucketGift() {
        for (int s = 0; s < SHEETS; s++) {
            sheets[s] = new Sheet();
        }
    }

    // ---- the parish

    public int farm(int farm, int what, int v) {
        if (!isFarm(farm) || !isWithin(what, Parish.NEED, Parish.SENDS)) {
            return finding(BEYOND);
        }
        if (!isWithin(v, Parish.leastOfFarm(what), here.mostOfFarm(what))) {
            return finding(BEYOND);
        }
        int[] row = here.rowOfFarms(what);
        int was = row[farm];
        row[farm] = v;
        return was;
    }

    public int farmOf(int farm, int what) {
        if (!isFarm(farm) || !isWithin(what, Parish.NEED, Parish.SENDS)) {
            return finding(BEYOND);
        }
        return here.rowOfFarms(what)[farm];
    }

    public int water(int what, int v) {
        if (!isWithin(what, Parish.WELL, Parish.BOTTOM) || !isWithin(v, 0, Parish.MOST_WATER[what])) {
            return finding(BEYOND);
        }
        int was = here.water[what];
        here.water[what] = v;
        return was;
    }

    // ---- people

    public int person(int kind) {
        if (!Kinds.isKind(kind)) {
            return finding(BEYOND);
        }
        if (here.people >= Parish.MOST_PEOPLE) {
            return finding(FULL);
        }
        return here.addPerson(kind);
    }

    public int of(int person, int what) {
        if (!here.isThere(person) || !isWithin(what, 0, 5)) {
            return finding(BEYOND);
        }
        if (what == 4) {
            return here.deservedBy(person);
        }
        if (what == 5) {
            return here.givenTo(person);
        }
        return here.rowOfPeople(what)[person];
    }

    public int set(int person, int what, int v) {
        if (!here.isThere(person) || !isWithin(what, Parish.DEEDS, Parish.ASKED)) {
            return finding(BEYOND);
        }
        if (!isWithin(v, 0, here.mostOfPerson(what))) {
            return finding(BEYOND);
        }
        int[] row = here.rowOfPeople(what);
        int was = row[person];
        row[person] = v;
        return was;
    }

    public int turn(int person, int kind) {
        if (!here.isThere(person) || !Kinds.isKind(kind)) {
            return finding(BEYOND);
        }
        int was = here.kinds[person];
        here.kinds[person] = kind;
        return was;
    }

    public int as(int person, int kind) {
        if (!here.isThere(person) || !Kinds.isKind(kind)) {
            return finding(BEYOND);
        }
        if (!Kinds.isUnder(here.kinds[person], kind)) {
            return finding(KIND);
        }
        return here.deeds[person];
    }

    public int does(int person, int deed) {
        if (!here.isThere(person) || !isWithin(deed, 0, Kinds.LAST_DEED)) {
            return finding(BEYOND);
        }
        here.deeds[person] |= 1 << deed;
        return here.deservedBy(person);
    }

    // ---- pulls, days

    public int pull(int person, int farm) {
        if (!here.isThere(person) || !isFarm(farm)) {
            return finding(BEYOND);
        }
        return here.draw(person, farm);
    }

    public int days(int n) {
        if (!isWithin(n, 1, MOST_DAYS)) {
            return finding(BEYOND);
        }
        if (here.day + n > Parish.MOST) {
            return finding(STATE);
        }
        for (int d = 0; d < n; d++) {
            here.passDay();
        }
        return Parish.total(here.thirst);
    }

    public int now(int what) {
        switch (what) {
            case 0:
                return here.day;
            case 1:
                return here.water[Parish.WELL];
            case 2:
                return here.water[Parish.SPRING];
            case 3:
                return here.water[Parish.BOTTOM];
            case 4:
                return Parish.total(here.store);
            case 5:
                return Parish.total(here.thirst);
            case 6:
                return Parish.total(here.need);
            default:
                return finding(BEYOND);
        }
    }

    public int on(int farm, int n, int what) {
        if (!isFarm(farm) || !isWithin(n, 0, MOST_DAYS) || !isWithin(what, Parish.STORE, Parish.THIRST)) {
            return finding(BEYOND);
        }
        trial.become(here);
        for (int d = 0; d < n; d++) {
            trial.passDay();
        }
        return trial.rowOfFarms(what)[farm];
    }

    public int dry(int farm) {
        if (!isFarm(farm)) {
            return finding(BEYOND);
        }
        trial.become(here);
        for (int d = 1; d <= MOST_DAYS; d++) {
            trial.passDay();
            if (trial.wasDry(farm)) {
                return d;
            }
        }
        return finding(NONE);
    }

    // ---- what is best

    public int favourite() {
        if (here.people == 0) {
            return finding(NONE);
        }
        int best = 0;
        for (int p = 1; p < here.people; p++) {
            if (here.givenTo(p) > here.givenTo(best)) {
                best = p;
            }
        }
        return best;
    }

    public int send(int farm, int n) {
        if (!isFarm(farm) || !isWithin(n, 1, MOST_DAYS_OF_CHOICE)) {
            return finding(BEYOND);
        }
        if (here.people == 0) {
            return finding(NONE);
        }
        int best = 0;
        int least = NO_BOUND;
        for (int p = 0; p < here.people; p++) {
            trial.become(here);
            trial.sends[farm] = p;
            int dry = dryOfTrial(n, least);
            if (dry < least) {
                least = dry;
                best = p;
            }
        }
        return best;
    }

    public int round(int n) {
        if (!isWithin(n, 1, MOST_DAYS_OF_ROUND)) {
            return finding(BEYOND);
        }
        if (here.people < Parish.FARMS) {
            return finding(NONE);
        }
        int best = 0;
        int least = NO_BOUND;
        for (int code = 0; code < Parish.ROUNDS && least > 0; code++) {
            if (here.isRound(code)) {
                trial.become(here);
                trial.sendRound(code);
                int dry = dryOfTrial(n, least);
                if (dry < least) {
                    least = dry;
                    best = code;
                }
            }
        }
        return Parish.roundInTens(best);
    }

    public int deeds(int person, int v) {
        if (!here.isThere(person) || !isWithin(v, 0, MOST_DESERVED)) {
            return finding(BEYOND);
        }
        int best = -1;
        int fewest = NO_BOUND;
        for (int set = 0; set <= Kinds.ALL_DEEDS; set++) {
            int many = Integer.bitCount(set);
            if (many < fewest && Kinds.deserved(here.kinds[person], set) >= v) {
                fewest = many;
                best = set;
            }
        }
        return best < 0 ? finding(NONE) : best;
    }

    public int step(int person) {
        if (!here.isThere(person)) {
            return finding(BEYOND);
        }
        int best = 0;
        int most = -1;
        for (int step = 0; step < here.people; step++) {
            int gift = here.gift(person, here.kinds[person], here.deeds[person], step);
            if (gift > most) {
                most = gift;
                best = step;
            }
        }
        return best;
    }

    public int kind(int person) {
        if (!here.isThere(person)) {
            return finding(BEYOND);
        }
        int best = 0;
        int most = -1;
        for (int kind = 0; kind < Kinds.MANY; kind++) {
            int gift = here.gift(person, kind, here.deeds[person], here.steps[person]);
            if (gift > most) {
                most = gift;
                best = kind;
            }
        }
        return best;
    }

    public int spring(int n) {
        if (!isWithin(n, 1, MOST_DAYS_OF_CHOICE)) {
            return finding(BEYOND);
        }
        int best = 0;
        int least = NO_BOUND;
        for (int spring = 0; spring <= Parish.MOST_WATER[Parish.SPRING] && least > 0; spring++) {
            trial.become(here);
            trial.water[Parish.SPRING] = spring;
            int dry = dryOfTrial(n, least);
            if (dry < least) {
                least = dry;
                best = spring;
            }
        }
        return best;
    }

    // No gift hangs on a STORE, so one trial with the greatest is enough: what is left of it when
    // it stands lowest was not needed.
    public int enough(int farm, int n) {
        if (!isFarm(farm) || !isWithin(n, 1, MOST_DAYS_OF_CHOICE)) {
            return finding(BEYOND);
        }
        trial.become(here);
        trial.store[farm] = MOST_ENOUGH;
        int lowest = MOST_ENOUGH;
        for (int d = 0; d < n; d++) {
            trial.passDay();
            if (trial.wasDry(farm)) {
                return finding(NONE);
            }
            lowest = Math.min(lowest, trial.store[farm]);
        }
        return MOST_ENOUGH - lowest;
    }

    public int worth(int person, int n) {
        if (!here.isThere(person) || !isWithin(n, 1, MOST_DAYS_OF_CHOICE)) {
            return finding(BEYOND);
        }
        trial.become(here);
        int with = dryOfTrial(n, NO_BOUND);
        trial.become(here);
        trial.sendNoMore(person);
        return dryOfTrial(n, NO_BOUND) - with;
    }

    public int did(int person, int v) {
        if (!here.isThere(person) || v < 0) {
            return finding(BEYOND);
        }
        int many = 0;
        for (int set = 0; set <= Kinds.ALL_DEEDS; set++) {
            if (here.gift(person, here.kinds[person], set, here.steps[person]) == v) {
                many++;
            }
        }
        return many;
    }

    // ---- the text

    public int feed(int bytes, int n) {
        if (!isWithin(n, 1, 4)) {
            return finding(BEYOND);
        }
        if (tape.length + n > Tape.MOST) {
            return finding(FULL);
        }
        tape.append(bytes, n);
        return tape.length;
    }

    public int wipe() {
        int had = tape.length;
        tape.length = 0;
        return had;
    }

    public int parish() {
        trial.become(here);
        int items = text.readInto(trial, tape);
        tape.length = 0;
        if (items >= 0) {
            here.become(trial);
        }
        return items;
    }

    // ---- sheets

    public int sheet(int s, int bits, int n) {
        if (!isSheet(s) || !Sheet.areBits(bits)) {
            return finding(BEYOND);
        }
        if (n < 0) {
            return finding(SIZE);
        }
        if (n > Sheet.MOST) {
            return finding(BEYOND);
        }
        sheets[s].clear(bits, n);
        return sheets[s].size;
    }

    public long write(int s, int i, long v) {
        if (!isSheet(s)) {
            return finding(BEYOND);
        }
        Sheet sheet = sheets[s];
        if (sheet.isMissing()) {
            return finding(MISSING);
        }
        if (!isWithin(i, 0, sheet.size - 1)) {
            return finding(BEYOND);
        }
        long was = sheet.numbers[i];
        sheet.put(i, v);
        return was;
    }

    public int copy(int s, int from, int t, int to, int n) {
        if (!isSheet(s) || !isSheet(t)) {
            return finding(BEYOND);
        }
        Sheet source = sheets[s];
        Sheet target = sheets[t];
        if (source.isMissing() || target.isMissing()) {
            return finding(MISSING);
        }
        if (source.bits != target.bits) {
            return finding(KIND);
        }
        if (!source.hasSpan(from, n) || !target.hasSpan(to, n)) {
            return finding(BEYOND);
        }
        System.arraycopy(source.numbers, from, target.numbers, to, n);
        return n;
    }

    public int lays(int s) {
        if (!isSheet(s)) {
            return finding(BEYOND);
        }
        Sheet sheet = sheets[s];
        if (sheet.isMissing()) {
            return finding(MISSING);
        }
        int came = 0;
        for (int i = 0; i < sheet.size && i < here.people; i++) {
            long number = sheet.numbers[i];
            if (number >= 0 && number <= Kinds.ALL_DEEDS) {
                here.deeds[i] = (int) number;
                came++;
            }
        }
        return came;
    }

    public int book(int s, int farm) {
        if (!isSheet(s)) {
            return finding(BEYOND);
        }
        Sheet sheet = sheets[s];
        if (sheet.isMissing()) {
            return finding(MISSING);
        }
        if (!isFarm(farm)) {
            return finding(BEYOND);
        }
        trial.become(here);
        for (int i = 0; i < sheet.size; i++) {
            sheet.put(i, trial.store[farm]);
            trial.passDay();
        }
        return sheet.size;
    }

    public int read(int s, int farm) {
        if (!isSheet(s)) {
            return finding(BEYOND);
        }
        if (sheets[s].isMissing()) {
            return finding(MISSING);
        }
        if (!isFarm(farm)) {
            return finding(BEYOND);
        }
        int many = 0;
        for (int p = 0; p < here.people; p++) {
            trial.become(here);
            trial.sends[farm] = p;
            if (trialGoesBy(sheets[s], farm)) {
                many++;
            }
        }
        return many;
    }

    // ---- images

    public int image() {
        kept.become(here);
        isKept = true;
        return 1;
    }

    public int undo() {
        if (!isKept) {
            return finding(NONE);
        }
        here.become(kept);
        return here.people;
    }

    public int tear() {
        int was = isKept ? 1 : 0;
        isKept = false;
        return was;
    }

    public int count(int what) {
        switch (what) {
            case 0:
                return here.people;
            case 1:
                return tape.length;
            case 2:
                return here.deedsOfAll();
            case 3:
                return here.askedOfAll();
            default:
                return finding(BEYOND);
        }
    }

    public int status(int which) {
        if (!isWithin(which, -1, FINDINGS - 1)) {
            return finding(BEYOND);
        }
        return which < 0 ? Parish.total(told) : told[which];
    }

    // ---- what the calls share

    private int finding(int which) {
        told[which]++;
        return FIRST_FINDING - which;
    }

    private static boolean isWithin(int v, int least, int most) {
        return v >= least && v <= most;
    }

    private static boolean isFarm(int farm) {
        return isWithin(farm, 0, Parish.FARMS - 1);
    }

    private static boolean isSheet(int s) {
        return isWithin(s, 0, SHEETS - 1);
    }

    /**
     * DRY of the trial ON n DAYS. THIRST never falls, so a trial that is no better than the bound
     * can be given up there: what it answers then is the bound or more.
     */
    private int dryOfTrial(int n, int bound) {
        int before = Parish.total(here.thirst);
        int dry = 0;
        for (int d = 0; d < n && dry < bound; d++) {
            trial.passDay();
            dry = Parish.total(trial.thirst) - before;
        }
        return dry;
    }

    private boolean trialGoesBy(Sheet sheet, int farm) {
        for (int i = 0; i < sheet.size; i++) {
            if (sheet.numbers[i] != trial.store[farm]) {
                return false;
            }
            trial.passDay();
        }
        return true;
    }

    /** The kinds of people, and what the bucket thinks of each. */
    private static final class Kinds {
        static final int FARMER = 0;
        static final int LAZY = 1;
        static final int KINDLY = 2;
        static final int STRANGER = 3;
        static final int SHAM = 4;
        static final int PRIEST = 5;
        static final int MANY = 6;

        static final int LAST_DEED = 7;
        static final int GOOD_DEEDS = 15;
        static final int BAD_DEEDS = 240;
        static final int ALL_DEEDS = 255;

        private static final int[] ABOVE = {-1, FARMER, FARMER, FARMER, LAZY, KINDLY};

        static boolean isKind(int kind) {
            return kind >= 0 && kind < MANY;
        }

        /** Whether a kind is another one or stands under it. */
        static boolean isUnder(int kind, int other) {
            int at = kind;
            for (int level = 0; level < MANY && isKind(at); level++) {
                if (at == other) {
                    return true;
                }
                at = ABOVE[at];
            }
            return false;
        }

        static int deserved(int kind, int deeds) {
            int bad = Integer.bitCount(deeds & BAD_DEEDS);
            int asFarmer = Math.max(0, 4 + 2 * Integer.bitCount(deeds & GOOD_DEEDS) - bad);
            switch (kind) {
                case LAZY:
                    return asFarmer + 3;
                case KINDLY:
                    return asFarmer / 2;
                case STRANGER:
                    return bad == 0 ? 12 : asFarmer;
                case SHAM:
                    return Math.max(0, asFarmer + 3 - 2);
                case PRIEST:
                    return (deeds & 1) != 0 ? 0 : asFarmer / 2;
                default:
                    return asFarmer;
            }
        }

        static String nameOf(int kind) {
            switch (kind) {
                case LAZY:
                    return "lazy";
                case KINDLY:
                    return "kind";
                case STRANGER:
                    return "stranger";
                case SHAM:
                    return "sham";
                case PRIEST:
                    return "priest";
                default:
                    return "farmer";
            }
        }
    }

    /** All that section 1 of the document tells: farms, people, the well and the day. */
    private static final class Parish {
        static final int FARMS = 4;
        static final int MOST_PEOPLE = 8;
        static final int MOST = 9999;
        static final int MOST_NEED = 20;
        static final int MOST_ASKED = 9;
        static final int NOBODY = -1;

        static final int NEED = 0;
        static final int STORE = 1;
        static final int THIRST = 2;
        static final int SENDS = 3;

        static final int DEEDS = 1;
        static final int STEP = 2;
        static final int ASKED = 3;

        static final int WELL = 0;
        static final int SPRING = 1;
        static final int BOTTOM = 2;
        static final int[] MOST_WATER = {9999, 99, 5};

        // A round is told by an octal number, FARM 0 its highest digit: so the rounds come in the
        // order in which the document prefers them.
        static final int ROUNDS = 4096;

        final int[] need = {3, 3, 3, 3};
        final int[] store = {5, 5, 5, 5};
        final int[] thirst = new int[FARMS];
        final int[] sends = {NOBODY, NOBODY, NOBODY, NOBODY};
        final int[] water = {100, 10, 0};
        int day = 0;
        int dryFarms = 0;

        int people = 0;
        final int[] kinds = new int[MOST_PEOPLE];
        final int[] deeds = new int[MOST_PEOPLE];
        final int[] steps = new int[MOST_PEOPLE];
        final int[] asked = new int[MOST_PEOPLE];

        void become(Parish other) {
            System.arraycopy(other.need, 0, need, 0, FARMS);
            System.arraycopy(other.store, 0, store, 0, FARMS);
            System.arraycopy(other.thirst, 0, thirst, 0, FARMS);
            System.arraycopy(other.sends, 0, sends, 0, FARMS);
            System.arraycopy(other.water, 0, water, 0, water.length);
            day = other.day;
            dryFarms = other.dryFarms;
            people = other.people;
            System.arraycopy(other.kinds, 0, kinds, 0, MOST_PEOPLE);
            System.arraycopy(other.deeds, 0, deeds, 0, MOST_PEOPLE);
            System.arraycopy(other.steps, 0, steps, 0, MOST_PEOPLE);
            System.arraycopy(other.asked, 0, asked, 0, MOST_PEOPLE);
        }

        static int total(int[] row) {
            int sum = 0;
            for (int v : row) {
                sum += v;
            }
            return sum;
        }

        int[] rowOfFarms(int what) {
            switch (what) {
                case NEED:
                    return need;
                case STORE:
                    return store;
                case THIRST:
                    return thirst;
                default:
                    return sends;
            }
        }

        static int leastOfFarm(int what) {
            return what == SENDS ? NOBODY : 0;
        }

        int mostOfFarm(int what) {
            switch (what) {
                case NEED:
                    return MOST_NEED;
                case SENDS:
                    return people - 1;
                default:
                    return MOST;
            }
        }

        int[] rowOfPeople(int what) {
            switch (what) {
                case DEEDS:
                    return deeds;
                case STEP:
                    return steps;
                case ASKED:
                    return asked;
                default:
                    return kinds;
            }
        }

        int mostOfPerson(int what) {
            switch (what) {
                case DEEDS:
                    return Kinds.ALL_DEEDS;
                case STEP:
                    return people - 1;
                default:
                    return MOST_ASKED;
            }
        }

        boolean isThere(int person) {
            return person >= 0 && person < people;
        }

        /** The number of the new one, or NOBODY if there is no room. */
        int addPerson(int kind) {
            if (people >= MOST_PEOPLE) {
                return NOBODY;
            }
            int person = people;
            kinds[person] = kind;
            deeds[person] = 0;
            steps[person] = person;
            asked[person] = 0;
            people++;
            return person;
        }

        int deservedBy(int person) {
            return Kinds.deserved(kinds[person], deeds[person]);
        }

        int givenTo(int person) {
            return gift(person, kinds[person], deeds[person], steps[person]);
        }

        /** What the bucket gives one now, were it of this kind, with these deeds and this step. */
        int gift(int person, int kind, int itsDeeds, int step) {
            int full;
            if (kind == Kinds.SHAM && step != person) {
                full = Math.max(0, Kinds.deserved(kinds[step], deeds[step]) + water[BOTTOM] - 1);
            } else {
                full = Kinds.deserved(kind, itsDeeds) + water[BOTTOM];
            }
            return Math.min(full >> asked[person], water[WELL]);
        }

        int draw(int person, int farm) {
            int gift = gift(person, kinds[person], deeds[person], steps[person]);
            store[farm] = Math.min(MOST, store[farm] + gift);
            water[WELL] -= gift;
            asked[person] = Math.min(MOST_ASKED, asked[person] + 1);
            return gift;
        }

        void passDay() {
            for (int f = 0; f < FARMS; f++) {
                if (isThere(sends[f])) {
                    draw(sends[f], f);
                }
            }
            dryFarms = 0;
            for (int f = 0; f < FARMS; f++) {
                useNeed(f);
            }
            for (int p = 0; p < people; p++) {
                asked[p] = 0;
                deeds[p] &= deeds[p] - 1;
            }
            water[WELL] = Math.min(MOST, water[WELL] + water[SPRING]);
            day++;
        }

        private void useNeed(int farm) {
            if (store[farm] >= need[farm]) {
                store[farm] -= need[farm];
                return;
            }
            // THIRST is held, so it can't tell by itself whether the farm was dry today.
            dryFarms |= 1 << farm;
            thirst[farm] = Math.min(MOST, thirst[farm] + 1);
            store[farm] = 0;
        }

        /** Whether a farm was dry on the day that went last. */
        boolean wasDry(int farm) {
            return (dryFarms >> farm & 1) != 0;
        }

        int deedsOfAll() {
            int many = 0;
            for (int p = 0; p < people; p++) {
                many += Integer.bitCount(deeds[p]);
            }
            return many;
        }

        int askedOfAll() {
            int many = 0;
            for (int p = 0; p < people; p++) {
                many += asked[p];
            }
            return many;
        }

        void sendNoMore(int person) {
            for (int f = 0; f < FARMS; f++) {
                if (sends[f] == person) {
                    sends[f] = NOBODY;
                }
            }
        }

        private static int oneOfRound(int code, int farm) {
            return code >> 3 * (FARMS - 1 - farm) & 7;
        }

        /** Whether a round sends four who are there, each another one. */
        boolean isRound(int code) {
            int sent = 0;
            for (int f = 0; f < FARMS; f++) {
                int person = oneOfRound(code, f);
                if (!isThere(person) || (sent >> person & 1) != 0) {
                    return false;
                }
                sent |= 1 << person;
            }
            return true;
        }

        void sendRound(int code) {
            for (int f = 0; f < FARMS; f++) {
                sends[f] = oneOfRound(code, f);
            }
        }

        static int roundInTens(int code) {
            int answer = 0;
            for (int f = FARMS - 1; f >= 0; f--) {
                answer = 10 * answer + oneOfRound(code, f);
            }
            return answer;
        }
    }

    /** The bytes that were fed, each 0 to 255. */
    private static final class Tape {
        static final int MOST = 120;

        final int[] bytes = new int[MOST];
        int length = 0;

        void append(int number, int n) {
            for (int i = n - 1; i >= 0 && length < MOST; i--) {
                bytes[length] = number >>> 8 * i & 255;
                length++;
            }
        }
    }

    /** The tape cut into tokens; the last one is always END, so a reader never runs off. */
    private static final class Tokens {
        static final int BLANK = 0;
        static final int WORD = 1;
        static final int NUMBER = 2;
        static final int SEMICOLON = 3;
        static final int STRAY = 4;
        static final int END = 5;

        private final int[] sorts = new int[Tape.MOST + 1];
        private final int[] starts = new int[Tape.MOST + 1];
        private final int[] lengths = new int[Tape.MOST + 1];
        private final int[] values = new int[Tape.MOST + 1];
        private final int[] bytes = new int[Tape.MOST];
        private int many = 0;
        private int at = 0;

        void scan(Tape tape) {
            System.arraycopy(tape.bytes, 0, bytes, 0, tape.length);
            many = 0;
            at = 0;
            int before = BLANK;
            for (int i = 0; i < tape.length; i++) {
                int sort = sortOf(bytes[i]);
                boolean goesOn = sort == before && (sort == WORD || sort == NUMBER);
                if (sort != BLANK && !goesOn) {
                    begin(sort, i);
                }
                if (goesOn) {
                    lengths[many - 1]++;
                }
                if (sort == NUMBER) {
                    addDigit(bytes[i] - '0');
                }
                before = sort;
            }
            begin(END, tape.length);
        }

        private static int sortOf(int b) {
            if (b >= 'a' && b <= 'z') {
                return WORD;
            }
            if (b >= '0' && b <= '9') {
                return NUMBER;
            }
            if (b == ' ') {
                return BLANK;
            }
            return b == ';' ? SEMICOLON : STRAY;
        }

        private void begin(int sort, int start) {
            sorts[many] = sort;
            starts[many] = start;
            lengths[many] = 1;
            values[many] = 0;
            many++;
        }

        // Held just above the most that a NUMBER may be, so that no row of digits wraps around.
        private void addDigit(int digit) {
            int last = many - 1;
            values[last] = Math.min(Parish.MOST + 1, 10 * values[last] + digit);
        }

        boolean isAt(int sort) {
            return sorts[at] == sort;
        }

        boolean isAtWord(String word) {
            if (sorts[at] != WORD || lengths[at] != word.length()) {
                return false;
            }
            for (int i = 0; i < word.length(); i++) {
                if (bytes[starts[at] + i] != word.charAt(i)) {
                    return false;
                }
            }
            return true;
        }

        int place() {
            return starts[at];
        }

        void goOn() {
            if (at < many - 1) {
                at++;
            }
        }

        boolean takesWord(String word) {
            boolean stands = isAtWord(word);
            if (stands) {
                goOn();
            }
            return stands;
        }

        /** The number that stands here, which is passed then; or -1 if none from 0 to most does. */
        int takeNumber(int most) {
            if (sorts[at] != NUMBER || values[at] > most) {
                return -1;
            }
            int value = values[at];
            goOn();
            return value;
        }
    }

    /**
     * The grammar of a parish's text. A part that can't be read answers false and leaves the
     * reader on the token that can't stand there: so that token's place is the fault's.
     */
    private static final class ParishText {
        private static final int MOST_DEEDS_TOLD = 4;

        private final Tokens tokens = new Tokens();

        /** How many items there were, or -1 less the place of the fault. */
        int readInto(Parish parish, Tape tape) {
            tokens.scan(tape);
            for (int items = 1; items <= Tape.MOST && readItem(parish); items++) {
                if (tokens.isAt(Tokens.END)) {
                    return items;
                }
                if (!tokens.isAt(Tokens.SEMICOLON)) {
                    break;
                }
                tokens.goOn();
            }
            return -1 - tokens.place();
        }

        private boolean readItem(Parish parish) {
            for (int kind = 0; kind < Kinds.MANY; kind++) {
                if (tokens.isAtWord(Kinds.nameOf(kind))) {
                    return readPerson(parish, kind);
                }
            }
            if (tokens.takesWord("farm")) {
                return readFarm(parish);
            }
            if (tokens.takesWord("well")) {
                return readNumber(parish.water, Parish.WELL, Parish.MOST_WATER[Parish.WELL]);
            }
            if (tokens.takesWord("spring")) {
                return readNumber(parish.water, Parish.SPRING, Parish.MOST_WATER[Parish.SPRING]);
            }
            return false;
        }

        private boolean readNumber(int[] row, int i, int most) {
            int number = tokens.takeNumber(most);
            if (number < 0) {
                return false;
            }
            row[i] = number;
            return true;
        }

        private boolean readPerson(Parish parish, int kind) {
            int person = parish.addPerson(kind);
            if (person < 0) {
                return false;
            }
            tokens.goOn();
            if (tokens.takesWord("did") && !readDeeds(parish, person)) {
                return false;
            }
            return !tokens.takesWord("step") || readNumber(parish.steps, person, parish.people - 1);
        }

        private boolean readDeeds(Parish parish, int person) {
            for (int i = 0; i < MOST_DEEDS_TOLD; i++) {
                if (i > 0 && !tokens.isAt(Tokens.NUMBER)) {
                    return true;
                }
                int deed = tokens.takeNumber(Kinds.LAST_DEED);
                if (deed < 0) {
                    return false;
                }
                parish.deeds[person] |= 1 << deed;
            }
            // A fifth number is left standing, where nothing that may follow can take it.
            return true;
        }

        private boolean readFarm(Parish parish) {
            int farm = tokens.takeNumber(Parish.FARMS - 1);
            if (farm < 0) {
                return false;
            }
            if (tokens.takesWord("need") && !readNumber(parish.need, farm, Parish.MOST_NEED)) {
                return false;
            }
            if (tokens.takesWord("has") && !readNumber(parish.store, farm, Parish.MOST)) {
                return false;
            }
            return !tokens.takesWord("sends") || readNumber(parish.sends, farm, parish.people - 1);
        }
    }

    /** A row of numbers of as many bits; numbers are signed, as Java's byte, short and long are. */
    private static final class Sheet {
        static final int MOST = 40;

        int bits = 0;
        int size = 0;
        final long[] numbers = new long[MOST];

        static boolean areBits(int bits) {
            return bits == 0 || bits == 8 || bits == 16 || bits == 64;
        }

        boolean isMissing() {
            return bits == 0;
        }

        void clear(int newBits, int n) {
            bits = newBits;
            size = newBits == 0 ? 0 : n;
            Arrays.fill(numbers, 0L);
        }

        void put(int i, long v) {
            if (bits == 8) {
                numbers[i] = (byte) v;
            } else if (bits == 16) {
                numbers[i] = (short) v;
            } else {
                numbers[i] = v;
            }
        }

        boolean hasSpan(int from, int n) {
            return from >= 0 && n >= 0 && n <= size && from <= size - n;
        }
    }
}
