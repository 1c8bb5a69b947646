import java.util.ArrayList;
import java.util.List;
import java.util.regex.Matcher;
import java.util.regex.Pattern;

/**
 * The document told a second time, as slowly and plainly as can be: every question is answered by
 * trying all that there is. ModelTest holds the class against it.
 */
final class BucketModel {
    static final class Farm {
        int need = 3;
        int store = 5;
        int thirst = 0;
        int sends = -1;
        boolean wasDry = false;

        Farm twin() {
            Farm t = new Farm();
            t.need = need;
            t.store = store;
            t.thirst = thirst;
            t.sends = sends;
            return t;
        }
    }

    static final class Person {
        int kind;
        int deeds = 0;
        int step;
        int asked = 0;

        Person twin() {
            Person t = new Person();
            t.kind = kind;
            t.deeds = deeds;
            t.step = step;
            t.asked = asked;
            return t;
        }
    }

    static final class World {
        List<Farm> farms = new ArrayList<>();
        List<Person> people = new ArrayList<>();
        int well = 100;
        int spring = 10;
        int bottom = 0;
        int day = 0;

        World twin() {
            World t = new World();
            for (Farm f : farms) {
                t.farms.add(f.twin());
            }
            for (Person p : people) {
                t.people.add(p.twin());
            }
            t.well = well;
            t.spring = spring;
            t.bottom = bottom;
            t.day = day;
            return t;
        }

        int add(int kind) {
            Person p = new Person();
            p.kind = kind;
            p.step = people.size();
            people.add(p);
            return p.step;
        }

        static boolean has(int deeds, int deed) {
            return (deeds & (1 << deed)) != 0;
        }

        static int deserves(int kind, int deeds) {
            int v;
            boolean bad = false;
            switch (kind) {
                case 0:
                    v = 4;
                    for (int d = 0; d < 8; d++) {
                        if (has(deeds, d)) {
                            v += d < 4 ? 2 : -1;
                        }
                    }
                    return v < 0 ? 0 : v;
                case 1:
                    return deserves(0, deeds) + 3;
                case 2:
                    return deserves(0, deeds) / 2;
                case 3:
                    for (int d = 4; d < 8; d++) {
                        bad = bad || has(deeds, d);
                    }
                    return bad ? deserves(0, deeds) : 12;
                case 4:
                    v = deserves(1, deeds) - 2;
                    return v < 0 ? 0 : v;
                default:
                    return has(deeds, 0) ? 0 : deserves(2, deeds);
            }
        }

        int gives(int p) {
            Person one = people.get(p);
            int v;
            if (one.kind == 4 && one.step != p) {
                Person other = people.get(one.step);
                v = deserves(other.kind, other.deeds) + bottom - 1;
                if (v < 0) {
                    v = 0;
                }
            } else {
                v = deserves(one.kind, one.deeds) + bottom;
            }
            for (int i = 0; i < one.asked; i++) {
                v = v / 2;
            }
            return v > well ? well : v;
        }

        int pull(int p, int f) {
            int v = gives(p);
            Farm farm = farms.get(f);
            farm.store += v;
            if (farm.store > 9999) {
                farm.store = 9999;
            }
            well -= v;
            Person one = people.get(p);
            if (one.asked < 9) {
                one.asked++;
            }
            return v;
        }

        void dayGoes() {
            for (int f = 0; f < 4; f++) {
                if (farms.get(f).sends != -1) {
                    pull(farms.get(f).sends, f);
                }
            }
            for (Farm f : farms) {
                f.wasDry = f.store < f.need;
                if (f.wasDry) {
                    f.store = 0;
                    if (f.thirst < 9999) {
                        f.thirst++;
                    }
                } else {
                    f.store -= f.need;
                }
            }
            for (Person p : people) {
                p.asked = 0;
                for (int d = 0; d < 8; d++) {
                    if (has(p.deeds, d)) {
                        p.deeds -= 1 << d;
                        break;
                    }
                }
            }
            well += spring;
            if (well > 9999) {
                well = 9999;
            }
            day++;
        }

        World on(int n) {
            World w = twin();
            for (int d = 0; d < n; d++) {
                w.dayGoes();
            }
            return w;
        }

        int thirst() {
            int sum = 0;
            for (Farm f : farms) {
                sum += f.thirst;
            }
            return sum;
        }

        int dry(int n) {
            return on(n).thirst() - thirst();
        }
    }

    private static final int[] UNDER = {-1, 0, 0, 0, 1, 2};
    private static final String[] NAMES = {"farmer", "lazy", "kind", "stranger", "sham", "priest"};

    World w = new World();
    private World kept = null;
    private StringBuilder tape = new StringBuilder();
    /** Each a byte[], short[], long[], or null if it is MISSING. */
    private final Object[] sheets = new Object[4];
    private final int[] told = new int[7];

    BucketModel() {
        for (int f = 0; f < 4; f++) {
            w.farms.add(new Farm());
        }
    }

    private int tell(int finding) {
        told[-1000000001 - finding]++;
        return finding;
    }

    private static boolean in(int v, int a, int b) {
        return a <= v && v <= b;
    }

    private boolean noFarm(int f) {
        return !in(f, 0, 3);
    }

    private boolean nobody(int p) {
        return !in(p, 0, w.people.size() - 1);
    }

    int farm(int farm, int what, int v) {
        if (noFarm(farm)) {
            return tell(Checks.BEYOND);
        }
        Farm f = w.farms.get(farm);
        int was;
        if (what == 0 && in(v, 0, 20)) {
            was = f.need;
            f.need = v;
        } else if (what == 1 && in(v, 0, 9999)) {
            was = f.store;
            f.store = v;
        } else if (what == 2 && in(v, 0, 9999)) {
            was = f.thirst;
            f.thirst = v;
        } else if (what == 3 && (v == -1 || !nobody(v))) {
            was = f.sends;
            f.sends = v;
        } else {
            return tell(Checks.BEYOND);
        }
        return was;
    }

    int farmOf(int farm, int what) {
        if (noFarm(farm) || !in(what, 0, 3)) {
            return tell(Checks.BEYOND);
        }
        Farm f = w.farms.get(farm);
        return what == 0 ? f.need : what == 1 ? f.store : what == 2 ? f.thirst : f.sends;
    }

    int water(int what, int v) {
        int was;
        if (what == 0 && in(v, 0, 9999)) {
            was = w.well;
            w.well = v;
        } else if (what == 1 && in(v, 0, 99)) {
            was = w.spring;
            w.spring = v;
        } else if (what == 2 && in(v, 0, 5)) {
            was = w.bottom;
            w.bottom = v;
        } else {
            return tell(Checks.BEYOND);
        }
        return was;
    }

    int person(int kind) {
        if (!in(kind, 0, 5)) {
            return tell(Checks.BEYOND);
        }
        return w.people.size() == 8 ? tell(Checks.FULL) : w.add(kind);
    }

    int of(int person, int what) {
        if (nobody(person) || !in(what, 0, 5)) {
            return tell(Checks.BEYOND);
        }
        Person p = w.people.get(person);
        int[] all = {p.kind, p.deeds, p.step, p.asked, World.deserves(p.kind, p.deeds), w.gives(person)};
        return all[what];
    }

    int set(int person, int what, int v) {
        if (nobody(person)) {
            return tell(Checks.BEYOND);
        }
        Person p = w.people.get(person);
        int was;
        if (what == 1 && in(v, 0, 255)) {
            was = p.deeds;
            p.deeds = v;
        } else if (what == 2 && !nobody(v)) {
            was = p.step;
            p.step = v;
        } else if (what == 3 && in(v, 0, 9)) {
            was = p.asked;
            p.asked = v;
        } else {
            return tell(Checks.BEYOND);
        }
        return was;
    }

    int turn(int person, int kind) {
        if (nobody(person) || !in(kind, 0, 5)) {
            return tell(Checks.BEYOND);
        }
        int was = w.people.get(person).kind;
        w.people.get(person).kind = kind;
        return was;
    }

    int as(int person, int kind) {
        if (nobody(person) || !in(kind, 0, 5)) {
            return tell(Checks.BEYOND);
        }
        for (int k = w.people.get(person).kind; k >= 0; k = UNDER[k]) {
            if (k == kind) {
                return w.people.get(person).deeds;
            }
        }
        return tell(Checks.KIND);
    }

    int does(int person, int deed) {
        if (nobody(person) || !in(deed, 0, 7)) {
            return tell(Checks.BEYOND);
        }
        Person p = w.people.get(person);
        p.deeds |= 1 << deed;
        return World.deserves(p.kind, p.deeds);
    }

    int pull(int person, int farm) {
        return nobody(person) || noFarm(farm) ? tell(Checks.BEYOND) : w.pull(person, farm);
    }

    int days(int n) {
        if (!in(n, 1, 60)) {
            return tell(Checks.BEYOND);
        }
        if (w.day + n > 9999) {
            return tell(Checks.STATE);
        }
        w = w.on(n);
        return w.thirst();
    }

    int now(int what) {
        int stores = 0;
        int needs = 0;
        for (Farm f : w.farms) {
            stores += f.store;
            needs += f.need;
        }
        int[] all = {w.day, w.well, w.spring, w.bottom, stores, w.thirst(), needs};
        return in(what, 0, 6) ? all[what] : tell(Checks.BEYOND);
    }

    int on(int farm, int n, int what) {
        if (noFarm(farm) || !in(n, 0, 60) || !in(what, 1, 2)) {
            return tell(Checks.BEYOND);
        }
        Farm f = w.on(n).farms.get(farm);
        return what == 1 ? f.store : f.thirst;
    }

    int dry(int farm) {
        if (noFarm(farm)) {
            return tell(Checks.BEYOND);
        }
        for (int n = 1; n <= 60; n++) {
            if (w.on(n).farms.get(farm).wasDry) {
                return n;
            }
        }
        return tell(Checks.NONE);
    }

    int favourite() {
        int best = -1;
        for (int p = w.people.size() - 1; p >= 0; p--) {
            if (best < 0 || w.gives(p) >= w.gives(best)) {
                best = p;
            }
        }
        return best < 0 ? tell(Checks.NONE) : best;
    }

    int send(int farm, int n) {
        if (noFarm(farm) || !in(n, 1, 20)) {
            return tell(Checks.BEYOND);
        }
        if (w.people.isEmpty()) {
            return tell(Checks.NONE);
        }
        int best = -1;
        int least = 0;
        for (int p = 0; p < w.people.size(); p++) {
            World t = w.twin();
            t.farms.get(farm).sends = p;
            int dry = t.dry(n);
            if (best < 0 || dry < least) {
                best = p;
                least = dry;
            }
        }
        return best;
    }

    int round(int n) {
        if (!in(n, 1, 7)) {
            return tell(Checks.BEYOND);
        }
        int many = w.people.size();
        if (many < 4) {
            return tell(Checks.NONE);
        }
        int best = -1;
        int least = 0;
        World t = w.twin();
        for (int a = 0; a < many; a++) {
            for (int b = 0; b < many; b++) {
                for (int c = 0; c < many; c++) {
                    for (int d = 0; d < many; d++) {
                        if (a == b || a == c || a == d || b == c || b == d || c == d) {
                            continue;
                        }
                        t.farms.get(0).sends = a;
                        t.farms.get(1).sends = b;
                        t.farms.get(2).sends = c;
                        t.farms.get(3).sends = d;
                        int dry = t.dry(n);
                        if (best < 0 || dry < least) {
                            best = a + 10 * b + 100 * c + 1000 * d;
                            least = dry;
                        }
                    }
                }
            }
        }
        return best;
    }

    int deeds(int person, int v) {
        if (nobody(person) || !in(v, 0, 15)) {
            return tell(Checks.BEYOND);
        }
        for (int many = 0; many <= 8; many++) {
            for (int set = 0; set < 256; set++) {
                if (Integer.bitCount(set) == many && World.deserves(w.people.get(person).kind, set) >= v) {
                    return set;
                }
            }
        }
        return tell(Checks.NONE);
    }

    int step(int person) {
        if (nobody(person)) {
            return tell(Checks.BEYOND);
        }
        World t = w.twin();
        int best = 0;
        int most = -1;
        for (int s = 0; s < w.people.size(); s++) {
            t.people.get(person).step = s;
            if (t.gives(person) > most) {
                most = t.gives(person);
                best = s;
            }
        }
        return best;
    }

    int kind(int person) {
        if (nobody(person)) {
            return tell(Checks.BEYOND);
        }
        World t = w.twin();
        int best = 0;
        int most = -1;
        for (int k = 0; k < 6; k++) {
            t.people.get(person).kind = k;
            if (t.gives(person) > most) {
                most = t.gives(person);
                best = k;
            }
        }
        return best;
    }

    int spring(int n) {
        if (!in(n, 1, 20)) {
            return tell(Checks.BEYOND);
        }
        World t = w.twin();
        int best = -1;
        int least = 0;
        for (int s = 0; s <= 99; s++) {
            t.spring = s;
            int dry = t.dry(n);
            if (best < 0 || dry < least) {
                best = s;
                least = dry;
            }
        }
        return best;
    }

    int enough(int farm, int n) {
        if (noFarm(farm) || !in(n, 1, 20)) {
            return tell(Checks.BEYOND);
        }
        for (int store = 0; store <= 400; store++) {
            World t = w.twin();
            t.farms.get(farm).store = store;
            boolean dry = false;
            for (int d = 0; d < n && !dry; d++) {
                t.dayGoes();
                dry = t.farms.get(farm).wasDry;
            }
            if (!dry) {
                return store;
            }
        }
        return tell(Checks.NONE);
    }

    int worth(int person, int n) {
        if (nobody(person) || !in(n, 1, 20)) {
            return tell(Checks.BEYOND);
        }
        World t = w.twin();
        for (Farm f : t.farms) {
            f.sends = f.sends == person ? -1 : f.sends;
        }
        return t.dry(n) - w.dry(n);
    }

    int did(int person, int v) {
        if (nobody(person) || v < 0) {
            return tell(Checks.BEYOND);
        }
        World t = w.twin();
        int many = 0;
        for (int set = 0; set < 256; set++) {
            t.people.get(person).deeds = set;
            many += t.gives(person) == v ? 1 : 0;
        }
        return many;
    }

    int feed(int bytes, int n) {
        if (!in(n, 1, 4)) {
            return tell(Checks.BEYOND);
        }
        if (tape.length() + n > 120) {
            return tell(Checks.FULL);
        }
        for (int i = n; i > 0; i--) {
            tape.append((char) (bytes >> 8 * (i - 1) & 255));
        }
        return tape.length();
    }

    int wipe() {
        int had = tape.length();
        tape = new StringBuilder();
        return had;
    }

    private static final class Fault extends Exception {
        private static final long serialVersionUID = 1L;
        final int place;

        Fault(int place) {
            super("", null, false, false);
            this.place = place;
        }
    }

    private static final Pattern TOKEN = Pattern.compile("[a-z]+|[0-9]+|[^ ]", Pattern.DOTALL);

    private List<String> tokens;
    private List<Integer> places;
    private int at;

    private String token() {
        return at < tokens.size() ? tokens.get(at) : "";
    }

    private Fault fault() {
        return new Fault(places.get(at));
    }

    private boolean isNumber() {
        return token().matches("[0-9]+");
    }

    private int number(int most) throws Fault {
        if (!isNumber() || new java.math.BigInteger(token()).compareTo(java.math.BigInteger.valueOf(most)) > 0) {
            throw fault();
        }
        return Integer.parseInt(tokens.get(at++));
    }

    private boolean word(String word) {
        boolean is = token().equals(word);
        at += is ? 1 : 0;
        return is;
    }

    private void item(World t) throws Fault {
        int kind = List.of(NAMES).indexOf(token());
        if (kind >= 0) {
            if (t.people.size() == 8) {
                throw fault();
            }
            at++;
            Person p = t.people.get(t.add(kind));
            if (word("did")) {
                p.deeds |= 1 << number(7);
                for (int more = 0; more < 3 && isNumber(); more++) {
                    p.deeds |= 1 << number(7);
                }
            }
            if (word("step")) {
                p.step = number(t.people.size() - 1);
            }
        } else if (word("farm")) {
            Farm f = t.farms.get(number(3));
            f.need = word("need") ? number(20) : f.need;
            f.store = word("has") ? number(9999) : f.store;
            f.sends = word("sends") ? number(t.people.size() - 1) : f.sends;
        } else if (word("well")) {
            t.well = number(9999);
        } else if (word("spring")) {
            t.spring = number(99);
        } else {
            throw fault();
        }
    }

    int parish() {
        tokens = new ArrayList<>();
        places = new ArrayList<>();
        at = 0;
        Matcher m = TOKEN.matcher(tape);
        while (m.find()) {
            tokens.add(m.group());
            places.add(m.start());
        }
        places.add(tape.length());
        wipe();
        World t = w.twin();
        try {
            int items = 0;
            do {
                item(t);
                items++;
            } while (word(";"));
            if (at < tokens.size()) {
                throw fault();
            }
            w = t;
            return items;
        } catch (Fault f) {
            return -1 - f.place;
        }
    }

    private boolean noSheet(int s) {
        return !in(s, 0, 3);
    }

    private static int size(Object sheet) {
        return java.lang.reflect.Array.getLength(sheet);
    }

    private static long number(Object sheet, int i) {
        return java.lang.reflect.Array.getLong(sheet, i);
    }

    private static void put(Object sheet, int i, long v) {
        if (sheet instanceof byte[] b) {
            b[i] = (byte) v;
        } else if (sheet instanceof short[] h) {
            h[i] = (short) v;
        } else {
            ((long[]) sheet)[i] = v;
        }
    }

    int sheet(int s, int bits, int n) {
        if (noSheet(s) || bits != 0 && bits != 8 && bits != 16 && bits != 64) {
            return tell(Checks.BEYOND);
        }
        if (n < 0) {
            return tell(Checks.SIZE);
        }
        if (n > 40) {
            return tell(Checks.BEYOND);
        }
        sheets[s] = bits == 0 ? null : bits == 8 ? new byte[n] : bits == 16 ? new short[n] : new long[n];
        return bits == 0 ? 0 : n;
    }

    long write(int s, int i, long v) {
        if (noSheet(s)) {
            return tell(Checks.BEYOND);
        }
        if (sheets[s] == null) {
            return tell(Checks.MISSING);
        }
        if (!in(i, 0, size(sheets[s]) - 1)) {
            return tell(Checks.BEYOND);
        }
        long was = number(sheets[s], i);
        put(sheets[s], i, v);
        return was;
    }

    int copy(int s, int from, int t, int to, int n) {
        if (noSheet(s) || noSheet(t)) {
            return tell(Checks.BEYOND);
        }
        if (sheets[s] == null || sheets[t] == null) {
            return tell(Checks.MISSING);
        }
        if (sheets[s].getClass() != sheets[t].getClass()) {
            return tell(Checks.KIND);
        }
        if (from < 0 || to < 0 || n < 0 || (long) from + n > size(sheets[s]) || (long) to + n > size(sheets[t])) {
            return tell(Checks.BEYOND);
        }
        long[] all = new long[n];
        for (int i = 0; i < n; i++) {
            all[i] = number(sheets[s], from + i);
        }
        for (int i = 0; i < n; i++) {
            put(sheets[t], to + i, all[i]);
        }
        return n;
    }

    int lays(int s) {
        if (noSheet(s)) {
            return tell(Checks.BEYOND);
        }
        if (sheets[s] == null) {
            return tell(Checks.MISSING);
        }
        int came = 0;
        for (int i = 0; i < size(sheets[s]); i++) {
            long v = number(sheets[s], i);
            if (!nobody(i) && v >= 0 && v <= 255) {
                w.people.get(i).deeds = (int) v;
                came++;
            }
        }
        return came;
    }

    int book(int s, int farm) {
        if (noSheet(s)) {
            return tell(Checks.BEYOND);
        }
        if (sheets[s] == null) {
            return tell(Checks.MISSING);
        }
        if (noFarm(farm)) {
            return tell(Checks.BEYOND);
        }
        for (int i = 0; i < size(sheets[s]); i++) {
            put(sheets[s], i, w.on(i).farms.get(farm).store);
        }
        return size(sheets[s]);
    }

    int read(int s, int farm) {
        if (noSheet(s)) {
            return tell(Checks.BEYOND);
        }
        if (sheets[s] == null) {
            return tell(Checks.MISSING);
        }
        if (noFarm(farm)) {
            return tell(Checks.BEYOND);
        }
        int many = 0;
        for (int p = 0; p < w.people.size(); p++) {
            World t = w.twin();
            t.farms.get(farm).sends = p;
            boolean so = true;
            for (int i = 0; i < size(sheets[s]) && so; i++) {
                so = t.on(i).farms.get(farm).store == number(sheets[s], i);
            }
            many += so ? 1 : 0;
        }
        return many;
    }

    int image() {
        kept = w.twin();
        return 1;
    }

    int undo() {
        if (kept == null) {
            return tell(Checks.NONE);
        }
        w = kept.twin();
        return w.people.size();
    }

    int tear() {
        int was = kept == null ? 0 : 1;
        kept = null;
        return was;
    }

    int count(int what) {
        int deeds = 0;
        int asked = 0;
        for (Person p : w.people) {
            deeds += Integer.bitCount(p.deeds);
            asked += p.asked;
        }
        int[] all = {w.people.size(), tape.length(), deeds, asked};
        return in(what, 0, 3) ? all[what] : tell(Checks.BEYOND);
    }

    int status(int which) {
        if (!in(which, -1, 6)) {
            return tell(Checks.BEYOND);
        }
        int all = 0;
        for (int many : told) {
            all += many;
        }
        return which == -1 ? all : told[which];
    }
}
