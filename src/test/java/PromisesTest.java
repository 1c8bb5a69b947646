/** Each promise by itself: ordinary inputs, the edges that the document names, wrong inputs. */
public final class PromisesTest {
    private static final int BEYOND = Checks.BEYOND;
    private static final int FULL = Checks.FULL;
    private static final int KIND = Checks.KIND;
    private static final int NONE = Checks.NONE;
    private static final int STATE = Checks.STATE;
    private static final int MISSING = Checks.MISSING;
    private static final int SIZE = Checks.SIZE;

    private static final int FARMER = 0;
    private static final int LAZY = 1;
    private static final int KINDLY = 2;
    private static final int STRANGER = 3;
    private static final int SHAM = 4;
    private static final int PRIEST = 5;

    private static final Checks CHECKS = new Checks("PromisesTest");

    private static void due(String call, long got, long want) {
        CHECKS.due(call, got, want);
    }

    private static BucketGift with(int... kinds) {
        BucketGift x = new BucketGift();
        for (int kind : kinds) {
            x.person(kind);
        }
        return x;
    }

    private static void newObject() {
        BucketGift x = new BucketGift();
        int[] now = {0, 100, 10, 0, 20, 0, 12};
        for (int what = 0; what < now.length; what++) {
            due("1: now(" + what + ")", x.now(what), now[what]);
        }
        int[] farm = {3, 5, 0, -1};
        for (int f = 0; f < 4; f++) {
            for (int what = 0; what < 4; what++) {
                due("1: farmOf(" + f + ", " + what + ")", x.farmOf(f, what), farm[what]);
            }
        }
        for (int what = 0; what < 4; what++) {
            due("1: count(" + what + ")", x.count(what), 0);
        }
        due("1: status(-1)", x.status(-1), 0);
        due("1: tear()", x.tear(), 0);
        for (int s = 0; s < 4; s++) {
            due("1: write(" + s + ", 0, 0)", x.write(s, 0, 0), MISSING);
        }
    }

    private static void farm() {
        BucketGift x = with(FARMER, LAZY);
        int[] most = {20, 9999, 9999, 1};
        int[] least = {0, 0, 0, -1};
        int[] first = {3, 5, 0, -1};
        for (int f = 0; f < 4; f++) {
            for (int what = 0; what < 4; what++) {
                String call = "2: farm(" + f + ", " + what + ", ";
                due(call + "most)", x.farm(f, what, most[what]), first[what]);
                due(call + "above)", x.farm(f, what, most[what] + 1), BEYOND);
                due(call + "least)", x.farm(f, what, least[what]), most[what]);
                due(call + "below)", x.farm(f, what, least[what] - 1), BEYOND);
                due(call + "first)", x.farm(f, what, first[what]), least[what]);
            }
            due("2: farm(f, -1, 0)", x.farm(f, -1, 0), BEYOND);
            due("2: farm(f, 4, 0)", x.farm(f, 4, 0), BEYOND);
        }
        due("2: farm(-1, 0, 0)", x.farm(-1, 0, 0), BEYOND);
        due("2: farm(4, 0, 0)", x.farm(4, 0, 0), BEYOND);
        due("2: farm(0, 3, 0), nobody there", new BucketGift().farm(0, 3, 0), BEYOND);
    }

    private static void farmOf() {
        BucketGift x = with(FARMER, LAZY, KINDLY);
        x.farm(2, 0, 7);
        x.farm(2, 1, 8);
        x.farm(2, 2, 9);
        x.farm(2, 3, 2);
        int[] want = {7, 8, 9, 2};
        for (int what = 0; what < 4; what++) {
            due("3: farmOf(2, " + what + ")", x.farmOf(2, what), want[what]);
        }
        due("3: farmOf(1, 1)", x.farmOf(1, 1), 5);
        due("3: farmOf(-1, 0)", x.farmOf(-1, 0), BEYOND);
        due("3: farmOf(4, 0)", x.farmOf(4, 0), BEYOND);
        due("3: farmOf(0, -1)", x.farmOf(0, -1), BEYOND);
        due("3: farmOf(0, 4)", x.farmOf(0, 4), BEYOND);
    }

    private static void water() {
        BucketGift x = new BucketGift();
        int[] first = {100, 10, 0};
        int[] most = {9999, 99, 5};
        for (int what = 0; what < 3; what++) {
            String call = "4: water(" + what + ", ";
            due(call + "most)", x.water(what, most[what]), first[what]);
            due(call + "above)", x.water(what, most[what] + 1), BEYOND);
            due(call + "below)", x.water(what, -1), BEYOND);
            due(call + "0)", x.water(what, 0), most[what]);
            due(call + "1)", x.water(what, 1), 0);
            due("4: now(" + (what + 1) + ")", x.now(what + 1), 1);
        }
        due("4: water(-1, 0)", x.water(-1, 0), BEYOND);
        due("4: water(3, 0)", x.water(3, 0), BEYOND);
    }

    private static void person() {
        BucketGift x = new BucketGift();
        due("5: person(-1)", x.person(-1), BEYOND);
        due("5: person(6)", x.person(6), BEYOND);
        for (int p = 0; p < 8; p++) {
            due("5: person " + p, x.person(p % 6), p);
            due("5: its kind", x.of(p, 0), p % 6);
            due("5: its deeds", x.of(p, 1), 0);
            due("5: its step", x.of(p, 2), p);
            due("5: asked", x.of(p, 3), 0);
        }
        due("5: a ninth", x.person(0), FULL);
        due("5: a ninth of no kind", x.person(6), BEYOND);
        due("5: count(0)", x.count(0), 8);
    }

    private static void deserves(int kind, int deeds, int want) {
        BucketGift x = with(kind);
        x.set(0, 1, deeds);
        due("6: kind " + kind + " with deeds " + deeds + " deserves", x.of(0, 4), want);
    }

    private static void of() {
        int[][] sets = {{0, 4, 7, 2, 12, 5, 2}, {1, 6, 9, 3, 12, 7, 0}, {2, 6, 9, 3, 12, 7, 3},
            {15, 12, 15, 6, 12, 13, 0}, {14, 10, 13, 5, 12, 11, 5}, {16, 3, 6, 1, 3, 4, 1},
            {240, 0, 3, 0, 0, 1, 0}, {255, 8, 11, 4, 8, 9, 0}, {254, 6, 9, 3, 6, 7, 3}, {128, 3, 6, 1, 3, 4, 1}};
        for (int[] row : sets) {
            for (int kind = 0; kind < 6; kind++) {
                deserves(kind, row[0], row[kind + 1]);
            }
        }
        BucketGift x = with(FARMER, SHAM, PRIEST);
        x.set(1, 1, 129);
        x.set(1, 3, 4);
        int[] want = {SHAM, 129, 1, 4, 6, 0};
        for (int what = 0; what < 6; what++) {
            due("6: of(1, " + what + ")", x.of(1, what), want[what]);
        }
        due("6: of(1, -1)", x.of(1, -1), BEYOND);
        due("6: of(1, 6)", x.of(1, 6), BEYOND);
        due("6: of(-1, 0)", x.of(-1, 0), BEYOND);
        due("6: of(3, 0)", x.of(3, 0), BEYOND);
        due("6: of(0, 0), nobody there", new BucketGift().of(0, 0), BEYOND);
    }

    private static void gives() {
        BucketGift x = with(FARMER, SHAM, PRIEST, SHAM, STRANGER);
        due("6: a farmer is given", x.of(0, 5), 4);
        x.water(2, 3);
        due("6: with BOTTOM 3", x.of(0, 5), 7);
        due("6: a sham by its own step", x.of(1, 5), 8);
        x.set(1, 2, 4);
        due("6: by a stranger's step", x.of(1, 5), 14);
        x.set(1, 3, 1);
        due("6: half, once asked", x.of(1, 5), 7);
        x.set(1, 3, 2);
        due("6: cut, twice asked", x.of(1, 5), 3);
        x.set(1, 3, 9);
        due("6: nothing, asked nine times", x.of(1, 5), 0);
        x.set(1, 3, 0);
        x.set(4, 3, 9);
        due("6: the asking of the other counts for nothing", x.of(1, 5), 14);
        x.water(0, 13);
        due("6: no more than the well has", x.of(1, 5), 13);
        x.water(0, 100);
        x.set(1, 3, 1);
        x.water(0, 7);
        due("6: the well is asked after halving", x.of(1, 5), 7);
        x.water(0, 100);
        x.set(1, 3, 0);
        x.set(1, 2, 3);
        x.set(3, 2, 4);
        due("6: by a sham's step, what that one deserves itself", x.of(1, 5), 7);
        x.set(0, 2, 4);
        due("6: a step is for shams alone", x.of(0, 5), 7);
        x.water(2, 0);
        x.does(2, 0);
        x.set(1, 2, 2);
        due("6: not below 0", x.of(1, 5), 0);
        x.water(2, 1);
        due("6: BOTTOM comes before the 1 less", x.of(1, 5), 0);
        x.water(2, 2);
        due("6: 1 of BOTTOM 2", x.of(1, 5), 1);
    }

    private static void set() {
        BucketGift x = with(SHAM, LAZY, KINDLY);
        int[] most = {0, 255, 2, 9};
        int[] first = {0, 0, 1, 0};
        for (int what = 1; what < 4; what++) {
            String call = "7: set(1, " + what + ", ";
            due(call + "most)", x.set(1, what, most[what]), first[what]);
            due(call + "above)", x.set(1, what, most[what] + 1), BEYOND);
            due(call + "below)", x.set(1, what, -1), BEYOND);
            due(call + "0)", x.set(1, what, 0), most[what]);
            due("7: of(1, " + what + ")", x.of(1, what), 0);
        }
        due("7: set(1, 0, 1)", x.set(1, 0, 1), BEYOND);
        due("7: set(1, 4, 1)", x.set(1, 4, 1), BEYOND);
        due("7: set(-1, 1, 1)", x.set(-1, 1, 1), BEYOND);
        due("7: set(3, 1, 1)", x.set(3, 1, 1), BEYOND);
        due("7: the kind is as it was", x.of(1, 0), LAZY);
    }

    private static void turn() {
        BucketGift x = with(SHAM, LAZY);
        x.set(0, 1, 17);
        x.set(0, 2, 1);
        x.set(0, 3, 2);
        due("8: turn(0, 3)", x.turn(0, STRANGER), SHAM);
        due("8: turn(0, 3) again", x.turn(0, STRANGER), STRANGER);
        int[] want = {STRANGER, 17, 1, 2, 5, 1};
        for (int what = 0; what < 6; what++) {
            due("8: of(0, " + what + ")", x.of(0, what), want[what]);
        }
        due("8: turn(0, -1)", x.turn(0, -1), BEYOND);
        due("8: turn(0, 6)", x.turn(0, 6), BEYOND);
        due("8: turn(-1, 0)", x.turn(-1, 0), BEYOND);
        due("8: turn(2, 0)", x.turn(2, 0), BEYOND);
        due("8: nothing changed", x.of(0, 0), STRANGER);
    }

    private static void as() {
        BucketGift x = with(0, 1, 2, 3, 4, 5);
        int[] above = {1, 1 | 2, 1 | 4, 1 | 8, 1 | 2 | 16, 1 | 4 | 32};
        for (int p = 0; p < 6; p++) {
            x.set(p, 1, 100 + p);
            for (int kind = 0; kind < 6; kind++) {
                boolean is = (above[p] >> kind & 1) != 0;
                due("9: as(" + p + ", " + kind + ")", x.as(p, kind), is ? 100 + p : KIND);
            }
        }
        due("9: as(0, -1)", x.as(0, -1), BEYOND);
        due("9: as(0, 6)", x.as(0, 6), BEYOND);
        due("9: as(6, 0)", x.as(6, 0), BEYOND);
        due("9: as(-1, 0)", x.as(-1, 0), BEYOND);
        due("9: as(-1, 9)", x.as(-1, 9), BEYOND);
    }

    private static void does() {
        BucketGift x = with(FARMER, STRANGER);
        int[] want = {6, 8, 10, 12, 11, 10, 9, 8};
        for (int deed = 0; deed < 8; deed++) {
            due("10: does(0, " + deed + ")", x.does(0, deed), want[deed]);
        }
        due("10: does(0, 3) again", x.does(0, 3), 8);
        due("10: its deeds", x.of(0, 1), 255);
        due("10: does(1, 4)", x.does(1, 4), 3);
        due("10: does(0, -1)", x.does(0, -1), BEYOND);
        due("10: does(0, 8)", x.does(0, 8), BEYOND);
        due("10: does(2, 0)", x.does(2, 0), BEYOND);
        due("10: does(-1, 0)", x.does(-1, 0), BEYOND);
        due("10: does(0, 33)", x.does(0, 33), BEYOND);
    }

    private static void pull() {
        BucketGift x = with(STRANGER, FARMER);
        due("11: pull(0, 2)", x.pull(0, 2), 12);
        due("11: pull(0, 3)", x.pull(0, 3), 6);
        due("11: pull(1, 3)", x.pull(1, 3), 4);
        due("11: store of 2", x.farmOf(2, 1), 17);
        due("11: store of 3", x.farmOf(3, 1), 15);
        due("11: store of 0", x.farmOf(0, 1), 5);
        due("11: the well", x.now(1), 78);
        due("11: asked", x.of(0, 3), 2);
        x.set(0, 3, 9);
        due("11: pull(0, 0), asked 9", x.pull(0, 0), 0);
        due("11: asked is held", x.of(0, 3), 9);
        x.set(0, 3, 0);
        x.farm(0, 1, 9990);
        due("11: pull(0, 0), nearly full", x.pull(0, 0), 12);
        due("11: the store is held", x.farmOf(0, 1), 9999);
        due("11: the well all the same", x.now(1), 66);
        x.water(0, 2);
        due("11: pull(1, 1), nearly empty", x.pull(1, 1), 2);
        due("11: the well", x.now(1), 0);
        due("11: pull(2, 0)", x.pull(2, 0), BEYOND);
        due("11: pull(-1, 0)", x.pull(-1, 0), BEYOND);
        due("11: pull(0, 4)", x.pull(0, 4), BEYOND);
        due("11: pull(0, -1)", x.pull(0, -1), BEYOND);
    }

    private static void days() {
        BucketGift x = with(FARMER, LAZY);
        x.farm(0, 3, 0);
        x.farm(2, 3, 0);
        x.farm(3, 3, 1);
        x.farm(1, 0, 6);
        x.set(0, 1, 84);
        x.set(1, 1, 128);
        x.set(1, 3, 1);
        due("12: days(1)", x.days(1), 1);
        due("12: store of 0", x.farmOf(0, 1), 6);
        due("12: store of 1, which was dry", x.farmOf(1, 1), 0);
        due("12: thirst of 1", x.farmOf(1, 2), 1);
        due("12: store of 2, by one who had asked", x.farmOf(2, 1), 4);
        due("12: store of 3, by one who had asked before", x.farmOf(3, 1), 5);
        due("12: the well", x.now(1), 100 - 4 - 2 - 3 + 10);
        due("12: the least deed is gone", x.of(0, 1), 80);
        due("12: the only deed is gone", x.of(1, 1), 0);
        due("12: asked", x.count(3), 0);
        due("12: the day", x.now(0), 1);
        x.farm(0, 1, 0);
        x.farm(0, 3, -1);
        x.farm(0, 0, 0);
        x.farm(1, 1, 6);
        x.days(1);
        due("12: NEED 0 and STORE 0 isn't dry", x.farmOf(0, 2), 0);
        due("12: STORE as NEED isn't dry", x.farmOf(1, 2), 1);
        due("12: but 0 then", x.farmOf(1, 1), 0);
        x.water(0, 9995);
        x.water(1, 99);
        x.days(1);
        due("12: the well is held", x.now(1), 9999);
        x.farm(1, 2, 9999);
        x.days(1);
        due("12: thirst is held", x.farmOf(1, 2), 9999);
        due("12: days(0)", x.days(0), BEYOND);
        due("12: days(61)", x.days(61), BEYOND);
        due("12: the day", x.now(0), 4);
    }

    private static void lastDay() {
        BucketGift x = new BucketGift();
        for (int i = 0; i < 166; i++) {
            x.days(60);
        }
        due("12: day 9960", x.now(0), 9960);
        due("12: days(40)", x.days(40), STATE);
        due("12: days(61)", x.days(61), BEYOND);
        due("12: still day 9960", x.now(0), 9960);
        due("12: thirst before", x.now(5), 4 * 9959);
        due("12: days(39)", x.days(39), 4 * 9998);
        due("12: day 9999", x.now(0), 9999);
        due("12: days(1)", x.days(1), STATE);
        due("12: ON asks for no day", x.on(0, 60, 2), 9999);
        due("12: nor does dry", x.dry(0), 1);
    }

    private static void now() {
        BucketGift x = with(FARMER);
        x.farm(0, 0, 1);
        x.farm(1, 0, 20);
        x.farm(2, 1, 100);
        x.farm(3, 2, 50);
        x.farm(0, 2, 7);
        x.water(0, 40);
        x.water(1, 41);
        x.water(2, 2);
        int[] want = {0, 40, 41, 2, 115, 57, 27};
        for (int what = 0; what < 7; what++) {
            due("13: now(" + what + ")", x.now(what), want[what]);
        }
        x.days(2);
        due("13: now(0)", x.now(0), 2);
        due("13: now(-1)", x.now(-1), BEYOND);
        due("13: now(7)", x.now(7), BEYOND);
    }

    private static void on() {
        BucketGift x = with(FARMER);
        x.farm(1, 3, 0);
        x.set(0, 1, 3);
        due("14: on(1, 0, 1)", x.on(1, 0, 1), 5);
        due("14: on(1, 1, 1)", x.on(1, 1, 1), 10);
        due("14: on(1, 2, 1)", x.on(1, 2, 1), 13);
        due("14: on(1, 3, 1)", x.on(1, 3, 1), 14);
        due("14: on(0, 0, 2)", x.on(0, 0, 2), 0);
        due("14: on(0, 1, 2)", x.on(0, 1, 2), 0);
        due("14: on(0, 2, 2)", x.on(0, 2, 2), 1);
        due("14: on(0, 60, 2)", x.on(0, 60, 2), 59);
        due("14: nothing changed", x.now(0) + x.of(0, 1) + x.farmOf(1, 1) + x.now(5), 8);
        due("14: on(0, -1, 1)", x.on(0, -1, 1), BEYOND);
        due("14: on(0, 61, 1)", x.on(0, 61, 1), BEYOND);
        due("14: on(0, 1, 0)", x.on(0, 1, 0), BEYOND);
        due("14: on(0, 1, 3)", x.on(0, 1, 3), BEYOND);
        due("14: on(4, 1, 1)", x.on(4, 1, 1), BEYOND);
        due("14: on(-1, 1, 1)", x.on(-1, 1, 1), BEYOND);
    }

    private static void dry() {
        BucketGift x = with(FARMER);
        due("15: dry(0)", x.dry(0), 2);
        x.farm(0, 1, 177);
        due("15: dry(0) on the 60th", x.dry(0), 60);
        x.farm(0, 1, 180);
        due("15: dry(0) on no day", x.dry(0), NONE);
        x.farm(1, 0, 0);
        due("15: dry(1) without need", x.dry(1), NONE);
        x.farm(2, 2, 9999);
        due("15: dry(2) with thirst held", x.dry(2), 2);
        x.days(3);
        due("15: dry(2), dry already", x.dry(2), 1);
        x.farm(2, 1, 200);
        due("15: dry(2), dry once, but no more", x.dry(2), NONE);
        due("15: dry(4)", x.dry(4), BEYOND);
        due("15: dry(-1)", x.dry(-1), BEYOND);
    }

    private static void favourite() {
        due("16: nobody", new BucketGift().favourite(), NONE);
        due("16: the only one", with(PRIEST).favourite(), 0);
        BucketGift x = with(FARMER, LAZY, STRANGER, STRANGER);
        due("16: of two strangers the first", x.favourite(), 2);
        x.does(2, 5);
        due("16: the other", x.favourite(), 3);
        x.set(3, 3, 1);
        due("16: who has asked is given half", x.favourite(), 1);
        x.water(0, 3);
        due("16: all that there is, to each", x.favourite(), 0);
        x.water(0, 0);
        due("16: nothing, to each", x.favourite(), 0);
    }

    private static void send() {
        due("17: nobody", new BucketGift().send(0, 1), NONE);
        due("17: nobody, but n first", new BucketGift().send(0, 21), BEYOND);
        BucketGift x = with(KINDLY, FARMER, LAZY, LAZY);
        x.farm(0, 0, 6);
        due("17: send(0, 1): any is enough", x.send(0, 1), 0);
        x.farm(0, 1, 0);
        due("17: send(0, 1) without a store", x.send(0, 1), 2);
        due("17: nothing changed", x.farmOf(0, 3), -1);
        x.farm(0, 3, 0);
        due("17: send(0, 20)", x.send(0, 20), 2);
        x.farm(1, 0, 0);
        due("17: all the same", x.send(1, 20), 0);
        BucketGift y = with(LAZY, FARMER);
        y.farm(0, 3, 0);
        y.farm(0, 0, 7);
        y.farm(0, 1, 0);
        y.farm(1, 1, 0);
        due("17: the other's lazy one is spared", y.send(1, 1), 0);
        y.farm(1, 0, 4);
        due("17: since half of his gift isn't enough", y.send(1, 1), 1);
        BucketGift z = with(STRANGER, FARMER);
        z.water(0, 5);
        z.farm(0, 1, 0);
        z.farm(1, 1, 0);
        z.farm(1, 0, 1);
        z.farm(1, 3, 1);
        due("17: DRY is that of all farms", z.send(0, 1), 1);
        z.farm(1, 2, 9999);
        due("17: a farm whose THIRST is held adds no more", z.send(0, 1), 0);
        due("17: send(4, 1)", x.send(4, 1), BEYOND);
        due("17: send(-1, 1)", x.send(-1, 1), BEYOND);
        due("17: send(0, 0)", x.send(0, 0), BEYOND);
        due("17: send(0, 21)", x.send(0, 21), BEYOND);
    }

    private static void round() {
        due("18: three", with(0, 1, 2).round(1), NONE);
        due("18: three, but n first", with(0, 1, 2).round(8), BEYOND);
        BucketGift x = with(KINDLY, KINDLY, KINDLY, KINDLY, LAZY, STRANGER);
        due("18: no farm is dry anyway", x.round(1), 3210);
        for (int f = 0; f < 4; f++) {
            x.farm(f, 1, 0);
        }
        x.farm(1, 0, 12);
        x.farm(3, 0, 7);
        x.farm(0, 0, 2);
        x.farm(2, 0, 2);
        due("18: each as it needs", x.round(1), 0 + 10 * 5 + 100 * 1 + 1000 * 4);
        due("18: nothing changed", x.farmOf(1, 3), -1);
        x.farm(1, 0, 20);
        due("18: one that can't be helped", x.round(1), 0 + 10 * 1 + 100 * 2 + 1000 * 4);
        x.farm(1, 0, 12);
        x.does(5, 4);
        due("18: for want of a stranger", x.round(1), 0 + 10 * 1 + 100 * 2 + 1000 * 4);
        BucketGift y = with(KINDLY, LAZY, FARMER, STRANGER);
        y.water(0, 9999);
        int[] needs = {12, 4, 7, 2};
        for (int f = 0; f < 4; f++) {
            y.farm(f, 0, needs[f]);
            y.farm(f, 1, 0);
        }
        due("18: one round alone is never dry", y.round(7), 3 + 10 * 2 + 100 * 1 + 1000 * 0);
        due("18: round(0)", x.round(0), BEYOND);
        due("18: round(8)", x.round(8), BEYOND);
        due("18: no finding else", x.status(-1), 2);
    }

    private static void deeds() {
        BucketGift x = with(0, 1, 2, 3, 4, 5);
        int[] most = {12, 15, 6, 12, 13, 5};
        int[] set = {15, 15, 15, 0, 15, 14};
        for (int p = 0; p < 6; p++) {
            due("19: deeds(" + p + ", 0)", x.deeds(p, 0), 0);
            due("19: deeds(" + p + ", most)", x.deeds(p, most[p]), set[p]);
            if (most[p] < 15) {
                due("19: deeds(" + p + ", above)", x.deeds(p, most[p] + 1), NONE);
            }
        }
        due("19: deeds(0, 5)", x.deeds(0, 5), 1);
        due("19: deeds(0, 7)", x.deeds(0, 7), 3);
        due("19: deeds(5, 3)", x.deeds(5, 3), 2);
        due("19: deeds(5, 4)", x.deeds(5, 4), 6);
        due("19: nothing changed", x.count(2), 0);
        due("19: deeds(0, -1)", x.deeds(0, -1), BEYOND);
        due("19: deeds(0, 16)", x.deeds(0, 16), BEYOND);
        due("19: deeds(6, 0)", x.deeds(6, 0), BEYOND);
        due("19: deeds(-1, 0)", x.deeds(-1, 0), BEYOND);
    }

    private static void step() {
        BucketGift x = with(PRIEST, STRANGER, SHAM, STRANGER);
        due("20: a sham, by a stranger's", x.step(2), 1);
        due("20: no sham, by any", x.step(3), 0);
        x.does(1, 7);
        due("20: by the other's", x.step(2), 3);
        x.does(3, 7);
        due("20: by its own", x.step(2), 2);
        x.turn(1, LAZY);
        due("20: as much, by another's", x.step(2), 1);
        x.water(0, 1);
        due("20: all that there is, by any", x.step(2), 0);
        due("20: nothing changed", x.of(2, 2), 2);
        BucketGift y = with(SHAM);
        y.set(0, 1, 240);
        due("20: there is no other", y.step(0), 0);
        due("20: step(4)", x.step(4), BEYOND);
        due("20: step(-1)", x.step(-1), BEYOND);
    }

    private static void kind() {
        BucketGift x = with(PRIEST, STRANGER);
        due("21: best a stranger", x.kind(0), STRANGER);
        x.does(0, 4);
        due("21: best a lazy one", x.kind(0), LAZY);
        x.set(0, 2, 1);
        due("21: best a sham, by his step", x.kind(0), SHAM);
        x.water(0, 2);
        due("21: any", x.kind(0), FARMER);
        due("21: nothing changed", x.of(0, 0), PRIEST);
        due("21: kind(2)", x.kind(2), BEYOND);
        due("21: kind(-1)", x.kind(-1), BEYOND);
    }

    private static void spring() {
        BucketGift x = with(FARMER);
        x.water(0, 0);
        x.water(1, 50);
        x.farm(0, 3, 0);
        for (int f = 0; f < 4; f++) {
            x.farm(f, 0, 0);
        }
        due("22: no need", x.spring(20), 0);
        x.farm(0, 0, 3);
        due("22: spring(1)", x.spring(1), 0);
        due("22: spring(2): one pint more than the two that are left", x.spring(2), 1);
        due("22: spring(20): three a day, two of them there", x.spring(20), 3);
        x.farm(0, 0, 4);
        x.farm(0, 1, 0);
        due("22: dry on the first day with any", x.spring(20), 4);
        x.farm(0, 0, 20);
        due("22: of no use", x.spring(20), 0);
        due("22: nothing changed", x.now(2), 50);
        due("22: spring(0)", x.spring(0), BEYOND);
        due("22: spring(21)", x.spring(21), BEYOND);
    }

    private static void enough() {
        BucketGift x = with(LAZY);
        x.farm(2, 0, 20);
        due("23: enough(2, 1)", x.enough(2, 1), 20);
        due("23: enough(2, 20)", x.enough(2, 20), 400);
        x.farm(2, 3, 0);
        due("23: enough(2, 20), with 7 a day", x.enough(2, 20), 260);
        x.set(0, 1, 15);
        due("23: with deeds for four days", x.enough(2, 20), 260 - 8 - 6 - 4 - 2);
        x.farm(2, 0, 7);
        due("23: nothing", x.enough(2, 20), 0);
        due("23: nothing changed", x.farmOf(2, 1), 5);
        x.set(0, 1, 0);
        x.set(0, 3, 1);
        due("23: asked today", x.enough(2, 20), 4);
        x.farm(2, 2, 9999);
        due("23: with thirst held", x.enough(2, 20), 4);
        x.water(0, 7);
        x.water(1, 0);
        due("23: seven in the well", x.enough(2, 2), 7);
        due("23: enough(0, 0)", x.enough(0, 0), BEYOND);
        due("23: enough(0, 21)", x.enough(0, 21), BEYOND);
        due("23: enough(4, 1)", x.enough(4, 1), BEYOND);
        due("23: enough(-1, 1)", x.enough(-1, 1), BEYOND);
    }

    private static void worth() {
        BucketGift x = with(FARMER, LAZY, STRANGER);
        x.farm(0, 3, 0);
        x.farm(1, 3, 1);
        x.farm(2, 3, 1);
        due("24: one farm's", x.worth(0, 20), 19);
        due("24: two farms'", x.worth(1, 20), 38);
        due("24: worth(1, 1)", x.worth(1, 1), 0);
        due("24: sent by none", x.worth(2, 20), 0);
        due("24: nothing changed", x.farmOf(1, 3), 1);
        BucketGift y = with(STRANGER, FARMER);
        y.farm(0, 0, 0);
        y.farm(0, 3, 0);
        y.farm(1, 3, 1);
        y.farm(1, 1, 0);
        y.farm(1, 0, 4);
        y.farm(2, 0, 0);
        y.farm(3, 0, 0);
        y.water(0, 12);
        due("24: below 0", y.worth(0, 1), -1);
        due("24: worth(3, 1)", x.worth(3, 1), BEYOND);
        due("24: worth(-1, 1)", x.worth(-1, 1), BEYOND);
        due("24: worth(0, 0)", x.worth(0, 0), BEYOND);
        due("24: worth(0, 21)", x.worth(0, 21), BEYOND);
    }

    private static void did() {
        BucketGift x = with(FARMER, STRANGER, SHAM, PRIEST);
        due("25: a farmer given 12", x.did(0, 12), 1);
        due("25: a farmer given 0", x.did(0, 0), 1);
        due("25: a farmer given 4", x.did(0, 4), 1 + 4 * 6 + 6);
        due("25: a stranger given 12", x.did(1, 12), 16);
        due("25: a sham by its own step", x.did(2, 13), 1);
        due("25: a priest given 0", x.did(3, 0), 128 + 4 + 1);
        x.set(2, 2, 1);
        due("25: a sham by a stranger's, any", x.did(2, 11), 256);
        due("25: a sham by a stranger's, none", x.did(2, 12), 0);
        x.water(0, 3);
        due("25: all that there is", x.did(1, 3), 16 + 15 * 16 - 15);
        due("25: nothing changed", x.count(2), 0);
        due("25: did(0, MAX)", x.did(0, Integer.MAX_VALUE), 0);
        due("25: did(0, -1)", x.did(0, -1), BEYOND);
        due("25: did(4, 0)", x.did(4, 0), BEYOND);
        due("25: did(-1, 0)", x.did(-1, 0), BEYOND);
    }

    private static void feed() {
        BucketGift x = new BucketGift();
        due("26: feed(.., 0)", x.feed(0, 0), BEYOND);
        due("26: feed(.., 5)", x.feed(0, 5), BEYOND);
        due("26: feed(.., -1)", x.feed(0, -1), BEYOND);
        due("26: well", x.feed('w' << 24 | 'e' << 16 | 'l' << 8 | 'l', 4), 4);
        due("26: the lowest alone", x.feed(-1 << 8 | '7', 1), 5);
        due("26: count(1)", x.count(1), 5);
        due("26: parish()", x.parish(), 1);
        due("26: the well", x.now(1), 7);
        for (int i = 1; i <= 29; i++) {
            due("26: feed " + i, x.feed(-1, 4), 4 * i);
        }
        due("26: feed 119", x.feed(-1, 3), 119);
        due("26: two too many", x.feed(0, 2), FULL);
        due("26: too many, but n first", x.feed(0, 5), BEYOND);
        due("26: count(1)", x.count(1), 119);
        due("26: the last", x.feed(0, 1), 120);
        due("26: one too many", x.feed(0, 1), FULL);
    }

    private static void wipe() {
        BucketGift x = new BucketGift();
        due("27: wipe()", x.wipe(), 0);
        x.feed(0, 3);
        due("27: wipe()", x.wipe(), 3);
        due("27: count(1)", x.count(1), 0);
        due("27: wipe()", x.wipe(), 0);
        due("27: the text is gone", Checks.parish(x, "well 3"), 1);
    }

    private static void text(int want, String text, int... kinds) {
        BucketGift x = with(kinds);
        due("28: '" + text + "'", Checks.parish(x, text), want);
        due("28: the tape after '" + text + "'", x.count(1), 0);
        due("28: findings after '" + text + "'", x.status(-1), 0);
        if (want < 0) {
            due("28: people after '" + text + "'", x.count(0), kinds.length);
            due("28: deeds after '" + text + "'", x.count(2), 0);
            due("28: stores after '" + text + "'", x.now(4), 20);
            due("28: the well after '" + text + "'", x.now(1), 100);
        }
    }

    private static void parish() {
        BucketGift x = with(FARMER);
        String all = "sham did 1 7 1 step 2;  kind step0 ;farm2need 20has 9999 sends 1; well 0;spring 99; farm 0;priest";
        due("28: all", Checks.parish(x, "lazy;" + all), 8);
        due("28: people", x.count(0), 5);
        int[][] people = {{FARMER, 0, 0}, {LAZY, 0, 1}, {SHAM, 130, 2}, {KINDLY, 0, 0}, {PRIEST, 0, 4}};
        for (int p = 0; p < people.length; p++) {
            for (int what = 0; what < 3; what++) {
                due("28: of(" + p + ", " + what + ")", x.of(p, what), people[p][what]);
            }
        }
        int[][] farms = {{3, 5, 0, -1}, {3, 5, 0, -1}, {20, 9999, 0, 1}, {3, 5, 0, -1}};
        for (int f = 0; f < 4; f++) {
            for (int what = 0; what < 4; what++) {
                due("28: farmOf(" + f + ", " + what + ")", x.farmOf(f, what), farms[f][what]);
            }
        }
        due("28: the well", x.now(1), 0);
        due("28: spring", x.now(2), 99);
        due("28: the tape is empty", x.count(1), 0);
        due("28: each name", Checks.parish(new BucketGift(), "farmer;lazy;kind;stranger;sham;priest"), 6);
    }

    private static void faults() {
        text(-1, "");
        text(-4, "   ");
        text(-1, ";");
        text(-8, "farmer;");
        text(-10, "farmer;  ");
        text(-8, "farmer;;lazy");
        text(-1, "farmers");
        text(-1, "Farmer");
        text(-1, "did 1");
        text(-1, "7");
        text(-7, "farmer\t");
        text(-8, "farmer lazy");
        text(-8, "farmer 1");
        text(1, "lazy did 0 3 5 7");
        text(1, "lazy did1 1 1 1");
        text(-18, "lazy did 0 1 2 3 4");
        text(-18, "lazy did 0 1 2 3 8");
        text(-10, "lazy did 8");
        text(-12, "lazy did 0 8");
        text(1, "lazy did 007");
        text(-9, "lazy did");
        text(-10, "lazy did ");
        text(-10, "lazy did step 0");
        text(-13, "lazy step 0 did 1");
        text(1, "lazy step 0");
        text(-11, "lazy step 1");
        text(1, "lazy step 2", 0, 1);
        text(-11, "lazy step 3", 0, 1);
        text(2, "lazy; sham step 0");
        text(-10, "lazy step");
        text(1, "farm 3");
        text(-6, "farm 4");
        text(-5, "farm");
        text(-6, "farm need 3");
        text(1, "farm 0 need 20 has 9999");
        text(-13, "farm 0 need 21");
        text(-12, "farm 0 has 10000");
        text(-14, "farm 0 has 3 need 3");
        text(-15, "farm 0 need 3 need 3");
        text(-14, "farm 0 sends 0");
        text(1, "farm 0 sends 1", 0, 0);
        text(-14, "farm 0 sends 2", 0, 0);
        text(2, "farmer;farm 0 sends 0");
        text(-14, "farm 0 sends 0;farmer");
        text(-13, "farm 0 sends");
        text(1, "well 9999");
        text(-6, "well 10000");
        text(-6, "well 99999999999999999999");
        text(-6, "well 4294967297");
        text(1, "well 0000000000000000000012");
        text(-6, "well -1");
        text(-5, "well");
        text(1, "spring 99");
        text(-8, "spring 100");
        text(-13, "well 5;lazy ,");
        text(-7, "farmer\u00e1");
        text(-8, "well 12\u0000");
        text(1, "priest", 0, 0, 0, 0, 0, 0, 0);
        text(-1, "priest", 0, 0, 0, 0, 0, 0, 0, 0);
        text(-9, "well 1; lazy did 9", 0, 0, 0, 0, 0, 0, 0, 0);
        text(-10, "well 1;  lazy did 9", 0, 0, 0, 0, 0, 0, 0, 0);
        text(-13, "kind; sham; lazy", 0, 0, 0, 0, 0, 0);
        text(-12, "farm 0 need");
        text(-11, "farm 0 has");
        text(-1, "garmer");
        text(-1, "farmes");
        text(-1, "fatmer");
        text(-1, ";".repeat(120));
        text(-120, "lazy;" + " ".repeat(114) + ",");
        text(-121, "lazy;" + " ".repeat(115));
        text(17, "well 1;".repeat(16) + "well2");
        text(20, "well0;".repeat(19) + "lazy");
        moreTexts();
    }

    private static void moreTexts() {
        BucketGift x = new BucketGift();
        due("28: a first text", Checks.parish(x, "sham did 7; well 8; spring 9"), 3);
        due("28: a fault after it", Checks.parish(x, "lazy 77"), -6);
        due("28: a shorter one", Checks.parish(x, "spring 1"), 1);
        due("28: nothing", x.parish(), -1);
        due("28: one more", Checks.parish(x, "farm 0 sends 0; kind step 0"), 2);
        due("28: people", x.count(0), 2);
        due("28: the well", x.now(1), 8);
        due("28: the spring", x.now(2), 1);
        due("28: whom farm 0 sends", x.farmOf(0, 3), 0);
        due("28: a step", x.of(1, 2), 0);
    }

    private static void sheet() {
        BucketGift x = new BucketGift();
        for (int bits : new int[] {8, 16, 64}) {
            due("29: sheet(0, " + bits + ", 40)", x.sheet(0, bits, 40), 40);
            x.write(0, 39, 5);
            due("29: again", x.sheet(0, bits, 40), 40);
            due("29: all 0", x.write(0, 39, 5), 0);
            due("29: sheet(0, " + bits + ", 0)", x.sheet(0, bits, 0), 0);
            due("29: it has none", x.write(0, 0, 5), BEYOND);
        }
        due("29: sheet(0, 0, 7)", x.sheet(0, 0, 7), 0);
        due("29: it is MISSING", x.write(0, 0, 5), MISSING);
        due("29: sheet(3, 8, 1)", x.sheet(3, 8, 1), 1);
        due("29: sheet(4, 8, 1)", x.sheet(4, 8, 1), BEYOND);
        due("29: sheet(-1, 8, -1)", x.sheet(-1, 8, -1), BEYOND);
        due("29: sheet(3, 32, 1)", x.sheet(3, 32, 1), BEYOND);
        due("29: sheet(3, 32, -1)", x.sheet(3, 32, -1), BEYOND);
        due("29: sheet(3, 8, -1)", x.sheet(3, 8, -1), SIZE);
        due("29: sheet(3, 0, -1)", x.sheet(3, 0, -1), SIZE);
        due("29: sheet(3, 8, 41)", x.sheet(3, 8, 41), BEYOND);
        due("29: sheet(3, 0, 41)", x.sheet(3, 0, 41), BEYOND);
        due("29: it is as it was", x.write(3, 0, 5), 0);
    }

    private static void writes(int bits, long v, long want) {
        BucketGift x = new BucketGift();
        x.sheet(2, bits, 3);
        due("30: before", x.write(2, 2, v), 0);
        due("30: " + v + " in " + bits + " bits", x.write(2, 2, 0), want);
    }

    private static void write() {
        writes(8, 127, 127);
        writes(8, 128, -128);
        writes(8, -1, -1);
        writes(8, 256 + 3, 3);
        writes(16, 32767, 32767);
        writes(16, 65535, -1);
        writes(16, 1L << 40 | 9, 9);
        writes(64, Long.MIN_VALUE, Long.MIN_VALUE);
        writes(64, -1000000001, -1000000001);
        BucketGift x = new BucketGift();
        x.sheet(1, 16, 2);
        x.write(1, 0, -1000000001);
        due("30: no finding", x.status(-1), 0);
        due("30: write(1, 2, 0)", x.write(1, 2, 0), BEYOND);
        due("30: write(1, -1, 0)", x.write(1, -1, 0), BEYOND);
        due("30: write(4, 0, 0)", x.write(4, 0, 0), BEYOND);
        due("30: write(-1, 0, 0)", x.write(-1, 0, 0), BEYOND);
        due("30: write(0, -1, 0)", x.write(0, -1, 0), MISSING);
    }

    private static void holds(String when, BucketGift x, int s, long... want) {
        for (int i = 0; i < want.length; i++) {
            long was = x.write(s, i, 0);
            due("31: " + when + ", number " + i, was, want[i]);
            x.write(s, i, was);
        }
    }

    private static void copy() {
        BucketGift x = new BucketGift();
        x.sheet(0, 8, 5);
        x.sheet(1, 8, 3);
        x.sheet(2, 16, 5);
        for (int i = 0; i < 5; i++) {
            x.write(0, i, i + 1);
        }
        due("31: copy(0, 1, 1, 0, 3)", x.copy(0, 1, 1, 0, 3), 3);
        holds("to another", x, 1, 2, 3, 4);
        due("31: copy(0, 0, 0, 1, 4)", x.copy(0, 0, 0, 1, 4), 4);
        holds("up", x, 0, 1, 1, 2, 3, 4);
        due("31: copy(0, 1, 0, 0, 4)", x.copy(0, 1, 0, 0, 4), 4);
        holds("down", x, 0, 1, 2, 3, 4, 4);
        due("31: none at the end", x.copy(0, 5, 1, 3, 0), 0);
        due("31: none behind the end", x.copy(0, 6, 1, 0, 0), BEYOND);
        due("31: none behind the other's end", x.copy(0, 0, 1, 4, 0), BEYOND);
        due("31: too many for the other", x.copy(0, 0, 1, 0, 4), BEYOND);
        due("31: too many for one", x.copy(1, 1, 0, 0, 3), BEYOND);
        due("31: from -1", x.copy(0, -1, 1, 0, 1), BEYOND);
        due("31: to -1", x.copy(0, 0, 1, -1, 1), BEYOND);
        due("31: n -1", x.copy(0, 1, 1, 1, -1), BEYOND);
        due("31: from and n wrap around", x.copy(0, Integer.MAX_VALUE, 1, 0, Integer.MAX_VALUE), BEYOND);
        due("31: n alone", x.copy(0, 1, 1, 1, Integer.MAX_VALUE), BEYOND);
        due("31: other bits", x.copy(0, 0, 2, 0, 1), KIND);
        due("31: other bits before numbers", x.copy(2, -1, 0, 0, 1), KIND);
        due("31: the other is MISSING", x.copy(0, 0, 3, 0, 1), MISSING);
        due("31: one is MISSING", x.copy(3, 0, 2, -1, 1), MISSING);
        due("31: no such sheet", x.copy(4, 0, 3, 0, 1), BEYOND);
        due("31: no such other", x.copy(3, 0, -1, 0, 1), BEYOND);
    }

    private static void lays() {
        BucketGift x = with(0, 1, 2, 3);
        due("32: lays(0)", x.lays(0), MISSING);
        x.sheet(0, 16, 6);
        long[] numbers = {255, 256, -1, 0, 7, 7};
        for (int i = 0; i < numbers.length; i++) {
            x.write(0, i, numbers[i]);
        }
        for (int p = 0; p < 4; p++) {
            x.set(p, 1, 9);
        }
        due("32: lays(0)", x.lays(0), 2);
        int[] want = {255, 9, 9, 0};
        for (int p = 0; p < 4; p++) {
            due("32: deeds of " + p, x.of(p, 1), want[p]);
        }
        x.sheet(0, 64, 2);
        x.write(0, 0, 1L << 32 | 5);
        x.write(0, 1, 6);
        due("32: a long one is left out", x.lays(0), 1);
        due("32: deeds of 0", x.of(0, 1), 255);
        due("32: deeds of 1", x.of(1, 1), 6);
        x.person(0);
        due("32: nothing for the new one", x.of(4, 1), 0);
        x.sheet(0, 8, 0);
        due("32: none", x.lays(0), 0);
        due("32: lays(4)", x.lays(4), BEYOND);
        due("32: lays(-1)", x.lays(-1), BEYOND);
    }

    private static void book() {
        BucketGift x = with(FARMER);
        x.set(0, 1, 3);
        x.farm(1, 3, 0);
        x.sheet(0, 64, 5);
        due("33: book(0, 1)", x.book(0, 1), 5);
        holds("33: book", x, 0, 5, 10, 13, 14, 15);
        due("33: book(0, 0)", x.book(0, 0), 5);
        holds("33: book", x, 0, 5, 2, 0, 0, 0);
        due("33: nothing changed", x.now(0) + x.of(0, 1), 3);
        x.farm(2, 1, 300);
        x.sheet(0, 8, 40);
        due("33: book(0, 2)", x.book(0, 2), 40);
        holds("33: the lowest bits", x, 0, 44, 41, 38);
        x.sheet(0, 16, 0);
        due("33: none", x.book(0, 2), 0);
        due("33: book(0, 4)", x.book(0, 4), BEYOND);
        due("33: book(0, -1)", x.book(0, -1), BEYOND);
        due("33: book(1, 4)", x.book(1, 4), MISSING);
        due("33: book(4, 0)", x.book(4, 0), BEYOND);
        due("33: book(-1, 0)", x.book(-1, 0), BEYOND);
    }

    private static void read() {
        BucketGift x = with(FARMER, LAZY, FARMER, KINDLY);
        x.sheet(0, 16, 3);
        x.farm(1, 3, 1);
        x.book(0, 1);
        due("34: as the lazy one", x.read(0, 1), 1);
        x.farm(1, 3, 2);
        x.book(0, 1);
        due("34: as two farmers", x.read(0, 1), 2);
        due("34: nothing changed", x.farmOf(1, 3), 2);
        x.does(0, 1);
        due("34: as one of them", x.read(0, 1), 1);
        x.farm(1, 3, -1);
        x.book(0, 1);
        due("34: as nobody", x.read(0, 1), 0);
        x.sheet(0, 16, 1);
        due("34: another store", x.read(0, 1), 0);
        x.write(0, 0, 5);
        due("34: as any", x.read(0, 1), 4);
        x.sheet(0, 8, 0);
        due("34: of no numbers, as any", x.read(0, 1), 4);
        x.sheet(0, 8, 1);
        x.farm(1, 1, 256 + 5);
        x.book(0, 1);
        due("34: more than eight bits hold", x.read(0, 1), 0);
        due("34: nobody there", emptyRead(), 0);
        due("34: read(0, 4)", x.read(0, 4), BEYOND);
        due("34: read(0, -1)", x.read(0, -1), BEYOND);
        due("34: read(1, 4)", x.read(1, 4), MISSING);
        due("34: read(4, 0)", x.read(4, 0), BEYOND);
        due("34: read(-1, 0)", x.read(-1, 0), BEYOND);
    }

    private static int emptyRead() {
        BucketGift x = new BucketGift();
        x.sheet(0, 8, 0);
        return x.read(0, 0);
    }

    private static void image() {
        BucketGift x = with(FARMER, SHAM);
        due("35: image()", x.image(), 1);
        x.farm(0, 0, 1);
        x.farm(1, 1, 2);
        x.farm(2, 2, 3);
        x.farm(3, 3, 1);
        x.water(0, 4);
        x.water(1, 5);
        x.water(2, 1);
        x.turn(0, PRIEST);
        x.set(1, 1, 7);
        x.set(1, 2, 0);
        x.set(1, 3, 8);
        x.days(3);
        due("35: image() again", x.image(), 1);
        x.person(0);
        due("36: undo()", x.undo(), 2);
        due("36: the day of the later one", x.now(0), 3);
        due("36: a need of the later one", x.farmOf(0, 0), 1);
    }

    private static void undo() {
        BucketGift x = with(FARMER, SHAM);
        due("36: undo() of nothing", x.undo(), NONE);
        x.set(1, 3, 2);
        x.image();
        x.feed(0, 2);
        x.sheet(0, 8, 2);
        x.farm(0, 0, 1);
        x.farm(1, 1, 2);
        x.farm(2, 2, 3);
        x.farm(3, 3, 1);
        x.water(0, 4);
        x.water(1, 5);
        x.water(2, 1);
        x.turn(0, PRIEST);
        x.set(1, 1, 7);
        x.set(1, 2, 0);
        x.person(0);
        x.days(3);
        x.now(9);
        for (int times = 0; times < 2; times++) {
            due("36: undo()", x.undo(), 2);
            int[] now = {0, 100, 10, 0, 20, 0, 12};
            for (int what = 0; what < now.length; what++) {
                due("36: now(" + what + ")", x.now(what), now[what]);
            }
            int[] farm = {3, 5, 0, -1};
            for (int f = 0; f < 4; f++) {
                for (int what = 0; what < 4; what++) {
                    due("36: farmOf(" + f + ", " + what + ")", x.farmOf(f, what), farm[what]);
                }
            }
            int[][] people = {{FARMER, 0, 0, 0}, {SHAM, 0, 1, 2}};
            for (int p = 0; p < 2; p++) {
                for (int what = 0; what < 4; what++) {
                    due("36: of(" + p + ", " + what + ")", x.of(p, what), people[p][what]);
                }
            }
            x.days(2);
            x.does(0, 3);
        }
        due("36: the tape stays", x.count(1), 2);
        due("36: sheets stay", x.write(0, 1, 0), 0);
        due("36: findings stay", x.status(-1), 2);
    }

    private static void tear() {
        BucketGift x = new BucketGift();
        due("37: tear() of nothing", x.tear(), 0);
        x.image();
        x.image();
        due("37: tear()", x.tear(), 1);
        due("37: tear() again", x.tear(), 0);
        due("37: undo()", x.undo(), NONE);
        x.image();
        due("37: undo() of a new one", x.undo(), 0);
    }

    private static void count() {
        BucketGift x = with(FARMER, LAZY, KINDLY);
        x.set(0, 1, 255);
        x.set(1, 1, 129);
        x.set(0, 3, 1);
        x.set(1, 3, 9);
        x.set(2, 3, 4);
        x.feed(0, 3);
        int[] want = {3, 3, 10, 14};
        for (int what = 0; what < 4; what++) {
            due("38: count(" + what + ")", x.count(what), want[what]);
        }
        due("38: count(-1)", x.count(-1), BEYOND);
        due("38: count(4)", x.count(4), BEYOND);
        BucketGift y = new BucketGift();
        y.image();
        y.person(0);
        y.set(0, 1, 7);
        y.set(0, 3, 7);
        y.undo();
        due("38: deeds of those that are gone", y.count(2), 0);
        due("38: their asking", y.count(3), 0);
    }

    private static void status() {
        BucketGift x = with(0, 0, 0, 0, 0, 0, 0, 0);
        for (int i = 0; i < 166; i++) {
            x.days(60);
        }
        x.now(-1);
        x.person(0);
        x.person(0);
        x.as(0, 1);
        x.as(0, 2);
        x.as(0, 3);
        x.undo();
        x.undo();
        x.undo();
        x.undo();
        for (int i = 0; i < 5; i++) {
            x.days(60);
        }
        for (int i = 0; i < 6; i++) {
            x.lays(3);
        }
        for (int i = 0; i < 7; i++) {
            x.sheet(3, 8, -5);
        }
        for (int which = 0; which < 7; which++) {
            due("39: status(" + which + ")", x.status(which), which + 1);
        }
        due("39: status(-1)", x.status(-1), 28);
        due("39: status(-2)", x.status(-2), BEYOND);
        due("39: status(7)", x.status(7), BEYOND);
        due("39: status(0), these too", x.status(0), 3);
        due("39: status(-1), these too", x.status(-1), 30);
        x.image();
        x.person(0);
        x.undo();
        due("39: undo() takes none back", x.status(1), 3);
        Checks.parish(x, "a fault");
        due("39: a FAULT is none", x.status(-1), 31);
    }

    public static void main(String[] args) {
        newObject();
        farm();
        farmOf();
        water();
        person();
        of();
        gives();
        set();
        turn();
        as();
        does();
        pull();
        days();
        lastDay();
        now();
        on();
        dry();
        favourite();
        send();
        round();
        deeds();
        step();
        kind();
        spring();
        enough();
        worth();
        did();
        feed();
        wipe();
        parish();
        faults();
        sheet();
        write();
        copy();
        lays();
        book();
        read();
        image();
        undo();
        tear();
        count();
        status();
        CHECKS.end();
    }
}
