import java.util.Random;

/** Holds the class against BucketModel in seeded runs of calls, wild arguments among them. */
public final class ModelTest {
    private static final int RUNS = 500;
    /** So few that a last text and look() stay within the 512 calls that the document allows. */
    private static final int CALLS = 300;
    private static final int ACTS = 39;
    private static final int[] WILD = {
        Integer.MIN_VALUE, Integer.MIN_VALUE + 1, -1000000001, -2, -1, 0, 1, 4, 5, 6, 7, 8, 9, 10, 15, 16, 20, 21,
        40, 41, 60, 61, 64, 99, 100, 255, 256, 9999, 10000, Integer.MAX_VALUE - 1, Integer.MAX_VALUE};
    private static final String[] WORDS = {
        "farmer", "lazy", "kind", "stranger", "sham", "priest", "did", "step", "farm", "need", "has", "sends",
        "well", "spring", ";", ";", ";", "0", "1", "2", "3", "4", "7", "8", "20", "21", "99", "100", "9999", "10000",
        "00007", "4294967296", "x", "farmers", "Did", "-1", ",", "\t", "\u00e9", "\u0000"};

    private final Random random;
    private final Checks checks;
    private final BucketGift x = new BucketGift();
    private final BucketModel model = new BucketModel();
    private final StringBuilder history = new StringBuilder();
    private int calls = 0;

    private ModelTest(long seed, Checks checks) {
        this.random = new Random(seed);
        this.checks = checks;
    }

    /** Mostly one from a to b, now and then one just outside or anything. */
    private int arg(int a, int b) {
        int dice = random.nextInt(100);
        if (dice < 2) {
            return WILD[random.nextInt(WILD.length)];
        }
        if (dice < 4) {
            return random.nextBoolean() ? a - 1 : b + 1;
        }
        if (dice < 10) {
            return random.nextBoolean() ? a : b;
        }
        return a + random.nextInt(b - a + 1);
    }

    private int one() {
        return arg(0, Math.max(0, model.w.people.size() - 1));
    }

    private int bits() {
        int[] some = {8, 8, 16, 16, 64, 64, 64, 0, 32};
        return some[random.nextInt(some.length)];
    }

    private int store() {
        int[] mosts = {10, 60, 400, 9999};
        return arg(0, mosts[random.nextInt(4)]);
    }

    private void same(String call, long got, long want) {
        calls++;
        history.append(call).append(" = ").append(got).append('\n');
        checks.due(call, got, want);
    }

    private void feed(int bytes, int n) {
        same("feed " + bytes + " " + n, x.feed(bytes, n), model.feed(bytes, n));
    }

    private void type(String text) {
        for (int i = 0; i < text.length(); ) {
            int n = Math.min(text.length() - i, 1 + random.nextInt(4));
            int bytes = random.nextInt();
            for (int k = 0; k < n; k++) {
                bytes = bytes << 8 | text.charAt(i + k);
            }
            feed(bytes, n);
            i += n;
        }
    }

    private String blank() {
        return random.nextInt(6) == 0 ? "  " : " ";
    }

    private String item() {
        StringBuilder b = new StringBuilder();
        int dice = random.nextInt(12);
        if (dice < 6) {
            b.append(WORDS[random.nextInt(6)]);
            if (random.nextBoolean()) {
                b.append(blank()).append("did");
                for (int i = random.nextInt(5) - (random.nextInt(8) == 0 ? 1 : 0); i >= 0; i--) {
                    b.append(blank()).append(arg(0, 7));
                }
            }
            if (random.nextBoolean()) {
                b.append(blank()).append("step ").append(arg(0, model.w.people.size()));
            }
        } else if (dice < 10) {
            b.append("farm").append(random.nextBoolean() ? "" : " ").append(arg(0, 3));
            b.append(random.nextBoolean() ? "" : " need " + arg(0, 20));
            b.append(random.nextBoolean() ? "" : " has " + store());
            b.append(random.nextBoolean() ? "" : " sends " + one());
        } else if (dice == 10) {
            b.append("well ").append(store());
        } else {
            b.append("spring ").append(arg(0, 99));
        }
        return b.toString();
    }

    private void text() {
        StringBuilder b = new StringBuilder();
        int items = 1 + random.nextInt(4);
        for (int i = 0; i < items; i++) {
            b.append(i > 0 ? ";" : "").append(random.nextInt(4) == 0 ? " " : "").append(item());
        }
        int flaws = Math.max(0, random.nextInt(6) - 3);
        for (int i = 0; i < flaws; i++) {
            int at = random.nextInt(b.length() + 1);
            if (random.nextBoolean() && at < b.length()) {
                b.deleteCharAt(at);
            } else {
                b.insert(at, WORDS[random.nextInt(WORDS.length)]);
            }
        }
        if (random.nextInt(10) == 0) {
            b.setLength(0);
            for (int i = random.nextInt(14); i > 0; i--) {
                b.append(WORDS[random.nextInt(WORDS.length)]).append(random.nextInt(5) == 0 ? "" : " ");
            }
        }
        type(b.toString());
        same("parish", x.parish(), model.parish());
    }

    private void call(int act) {
        int a;
        int b;
        int c;
        switch (act) {
            case 0:
                a = arg(0, 3);
                b = arg(0, 3);
                c = b == 0 ? arg(0, 20) : b == 3 ? arg(-1, model.w.people.size() - 1) : store();
                same("farm " + a + " " + b + " " + c, x.farm(a, b, c), model.farm(a, b, c));
                break;
            case 1:
                a = arg(0, 3);
                b = arg(0, 3);
                same("farmOf " + a + " " + b, x.farmOf(a, b), model.farmOf(a, b));
                break;
            case 2:
                a = arg(0, 2);
                b = a == 0 ? store() : a == 1 ? arg(0, 99) : arg(0, 5);
                same("water " + a + " " + b, x.water(a, b), model.water(a, b));
                break;
            case 3:
                a = arg(0, 5);
                same("person " + a, x.person(a), model.person(a));
                break;
            case 4:
                a = one();
                b = arg(0, 5);
                same("of " + a + " " + b, x.of(a, b), model.of(a, b));
                break;
            case 5:
                a = one();
                b = arg(1, 3);
                c = b == 1 ? arg(0, 255) : b == 2 ? one() : arg(0, 9);
                same("set " + a + " " + b + " " + c, x.set(a, b, c), model.set(a, b, c));
                break;
            case 6:
                a = one();
                b = arg(0, 5);
                same("turn " + a + " " + b, x.turn(a, b), model.turn(a, b));
                break;
            case 7:
                a = one();
                b = arg(0, 5);
                same("as " + a + " " + b, x.as(a, b), model.as(a, b));
                break;
            case 8:
                a = one();
                b = arg(0, 7);
                same("does " + a + " " + b, x.does(a, b), model.does(a, b));
                break;
            case 9:
                a = one();
                b = arg(0, 3);
                same("pull " + a + " " + b, x.pull(a, b), model.pull(a, b));
                break;
            case 10:
                a = random.nextInt(4) == 0 ? arg(1, 60) : arg(1, 3);
                same("days " + a, x.days(a), model.days(a));
                break;
            case 11:
                a = arg(0, 6);
                same("now " + a, x.now(a), model.now(a));
                break;
            case 12:
                a = arg(0, 3);
                b = arg(0, 60);
                c = arg(1, 2);
                same("on " + a + " " + b + " " + c, x.on(a, b, c), model.on(a, b, c));
                break;
            case 13:
                a = arg(0, 3);
                same("dry " + a, x.dry(a), model.dry(a));
                break;
            case 14:
                same("favourite", x.favourite(), model.favourite());
                break;
            case 15:
                a = arg(0, 3);
                b = arg(1, 20);
                same("send " + a + " " + b, x.send(a, b), model.send(a, b));
                break;
            case 16:
                // The model tries every round to its end, so it isn't asked each time.
                a = random.nextInt(4) == 0 ? arg(1, 7) : arg(-1, 0);
                same("round " + a, x.round(a), model.round(a));
                break;
            case 17:
                a = one();
                b = arg(0, 15);
                same("deeds " + a + " " + b, x.deeds(a, b), model.deeds(a, b));
                break;
            case 18:
                a = one();
                same("step " + a, x.step(a), model.step(a));
                break;
            case 19:
                a = one();
                same("kind " + a, x.kind(a), model.kind(a));
                break;
            default:
                callMore(act);
        }
    }

    private void callMore(int act) {
        int a;
        int b;
        int c;
        switch (act) {
            case 20:
                a = arg(1, 20);
                same("spring " + a, x.spring(a), model.spring(a));
                break;
            case 21:
                a = arg(0, 3);
                b = arg(1, 20);
                same("enough " + a + " " + b, x.enough(a, b), model.enough(a, b));
                break;
            case 22:
                a = one();
                b = arg(1, 20);
                same("worth " + a + " " + b, x.worth(a, b), model.worth(a, b));
                break;
            case 23:
                a = one();
                b = arg(0, 20);
                same("did " + a + " " + b, x.did(a, b), model.did(a, b));
                break;
            case 24:
                feed(random.nextInt(), arg(1, 4));
                break;
            case 25:
                same("wipe", x.wipe(), model.wipe());
                break;
            case 26:
                text();
                break;
            case 27:
                a = arg(0, 3);
                b = bits();
                c = arg(0, 40);
                same("sheet " + a + " " + b + " " + c, x.sheet(a, b, c), model.sheet(a, b, c));
                break;
            case 28:
                a = arg(0, 3);
                b = arg(0, 8);
                long v = random.nextInt(3) == 0 ? random.nextLong() : arg(-300, 300);
                same("write " + a + " " + b + " " + v, x.write(a, b, v), model.write(a, b, v));
                break;
            case 29:
                copyOne();
                break;
            case 30:
                a = arg(0, 3);
                same("lays " + a, x.lays(a), model.lays(a));
                break;
            case 31:
                a = arg(0, 3);
                b = arg(0, 3);
                same("book " + a + " " + b, x.book(a, b), model.book(a, b));
                same("read " + a + " " + b, x.read(a, b), model.read(a, b));
                break;
            case 32:
                a = arg(0, 3);
                b = arg(0, 3);
                same("read " + a + " " + b, x.read(a, b), model.read(a, b));
                break;
            case 33:
                same("image", x.image(), model.image());
                break;
            case 34:
                same("undo", x.undo(), model.undo());
                break;
            case 35:
                same("tear", x.tear(), model.tear());
                break;
            case 36:
                a = arg(0, 3);
                same("count " + a, x.count(a), model.count(a));
                break;
            case 37:
                a = arg(-1, 6);
                same("status " + a, x.status(a), model.status(a));
                break;
            default:
                a = one();
                b = arg(0, 3);
                same("farm " + b + " 3 " + a, x.farm(b, 3, a), model.farm(b, 3, a));
        }
    }

    private void copyOne() {
        int s = arg(0, 3);
        int from = arg(0, 8);
        int t = arg(0, 3);
        int to = arg(0, 8);
        int n = arg(0, 8);
        same("copy " + s + " " + from + " " + t + " " + to + " " + n,
            x.copy(s, from, t, to, n), model.copy(s, from, t, to, n));
    }

    /** All that can be seen, so that a change that no answer told is found too. */
    private void look() {
        for (int what = 0; what < 7; what++) {
            same("now " + what, x.now(what), model.now(what));
        }
        for (int farm = 0; farm < 4; farm++) {
            for (int what = 0; what < 4; what++) {
                same("farmOf " + farm + " " + what, x.farmOf(farm, what), model.farmOf(farm, what));
            }
        }
        for (int p = 0; p < model.w.people.size(); p++) {
            for (int what = 0; what < 6; what++) {
                same("of " + p + " " + what, x.of(p, what), model.of(p, what));
            }
        }
        for (int what = 0; what < 4; what++) {
            same("count " + what, x.count(what), model.count(what));
        }
        for (int which = -1; which < 7; which++) {
            same("status " + which, x.status(which), model.status(which));
        }
    }

    private boolean run() {
        int people = random.nextInt(9);
        for (int i = 0; i < people; i++) {
            call(3);
        }
        int before = checks.wrong();
        while (calls < CALLS && checks.wrong() == before) {
            call(random.nextInt(ACTS));
        }
        look();
        return checks.wrong() == before;
    }

    public static void main(String[] args) {
        Checks checks = new Checks("ModelTest");
        for (int seed = 0; seed < RUNS; seed++) {
            ModelTest test = new ModelTest(seed, checks);
            if (!test.run()) {
                System.out.println("in the run of seed " + seed + ":\n" + test.history);
                break;
            }
        }
        checks.end();
    }
}
