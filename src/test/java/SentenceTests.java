import java.util.List;

/** What the tests of the document's sentences share. */
abstract class SentenceTests {
    static final int BEYOND = Checks.BEYOND;
    static final int FULL = Checks.FULL;
    static final int KIND = Checks.KIND;
    static final int NONE = Checks.NONE;
    static final int STATE = Checks.STATE;
    static final int MISSING = Checks.MISSING;
    static final int SIZE = Checks.SIZE;

    static final int FARMER = 0;
    static final int LAZY = 1;
    static final int KINDLY = 2;
    static final int STRANGER = 3;
    static final int SHAM = 4;
    static final int PRIEST = 5;

    static final int NEED = 0;
    static final int STORE = 1;
    static final int THIRST = 2;
    static final int SENDS = 3;

    static final int WELL = 0;
    static final int SPRING = 1;
    static final int BOTTOM = 2;

    static final int DEEDS = 1;
    static final int STEP = 2;
    static final int ASKED = 3;
    static final int DESERVES = 4;
    static final int GIVES = 5;

    static final int MIN = Integer.MIN_VALUE;
    static final int MAX = Integer.MAX_VALUE;

    static final Checks CHECKS = new Checks("BoundaryTest");
    private static String sentence = "";

    interface OfArgument {
        long of(BucketGift x, int v);
    }

    static void begin(String quoted) {
        sentence = quoted;
    }

    static void due(String call, long got, long want) {
        CHECKS.due(sentence + ": " + call, got, want);
    }

    static void due(String call, boolean stands) {
        CHECKS.due(sentence + ": " + call, stands);
    }

    static BucketGift with(int... kinds) {
        BucketGift x = new BucketGift();
        for (int kind : kinds) {
            x.person(kind);
        }
        return x;
    }

    /** Farms that need nothing and have nothing, a well that doesn't end: nothing is dry by chance. */
    static BucketGift quiet(int... kinds) {
        BucketGift x = with(kinds);
        for (int f = 0; f < 4; f++) {
            needsAndHas(x, f, 0, 0);
        }
        x.water(WELL, 9999);
        return x;
    }

    static void needsAndHas(BucketGift x, int farm, int need, int store) {
        x.farm(farm, NEED, need);
        x.farm(farm, STORE, store);
    }

    /** The call answers the finding, counts it, and changes nothing else. */
    static void refused(String call, Twins.Start start, Twins.Call act, int finding) {
        BucketGift x = Twins.made(start);
        BucketGift twin = Twins.made(start);
        List<Long> before = Twins.status(x);
        due("no finding before " + call, before.get(0), 0);
        due(call, act.of(x), finding);
        before.set(0, before.get(0) + 1);
        int which = -1000000000 - finding;
        before.set(which, before.get(which) + 1);
        due("status() after " + call, Twins.status(x).equals(before));
        due("nothing changed by " + call, Twins.look(x).equals(Twins.look(twin)));
    }

    static void refused(String call, Twins.Call act, int finding) {
        refused(call, Twins::busy, act, finding);
    }

    /** The call answers something, and changes nothing at all. */
    static void onlyAsks(String call, Twins.Call act) {
        BucketGift x = Twins.made(Twins::busy);
        BucketGift twin = Twins.made(Twins::busy);
        due(call + " answers", act.of(x) > -1000000000L);
        due("no finding by " + call, Twins.status(x).equals(Twins.status(twin)));
        due("nothing changed by " + call, Twins.look(x).equals(Twins.look(twin)));
    }

    /** The least and the most are taken; what lies outside of them, near and far, is BEYOND. */
    static void range(String call, Twins.Start start, int least, int most, OfArgument act) {
        due(call + " of " + least, act.of(Twins.made(start), least) > -1000000000L);
        due(call + " of " + most, act.of(Twins.made(start), most) > -1000000000L);
        for (int v : new int[] {least - 1, most + 1, MIN, MAX, least - 256, most + 256}) {
            refused(call + " of " + v, start, x -> act.of(x, v), BEYOND);
        }
    }

    static void range(String call, int least, int most, OfArgument act) {
        range(call, Twins::busy, least, most, act);
    }
}
