/** Promises 11 to 15. */
final class DaysSentences extends SentenceTests {
    @Sentence(promise = 11, says = "One PULLS for a FARM: how much came.")
    static void howMuchCame() {
        BucketGift x = with(STRANGER, FARMER);
        int[] want = {12, 6, 3, 1, 0, 0};
        for (int i = 0; i < want.length; i++) {
            due("pull " + i, x.pull(0, 2), want[i]);
        }
        due("another one", x.pull(1, 2), 4);
        due("STORE", x.farmOf(2, STORE), 5 + 22 + 4);
        x.set(0, ASKED, 0);
        x.farm(3, STORE, 9998);
        due("all that was given came, though STORE has no room", x.pull(0, 3), 12);
        due("THE WELL", x.now(1), 100 - 22 - 4 - 12);
        x.set(0, ASKED, 0);
        x.water(WELL, 1);
        due("all that there was", x.pull(0, 3), 1);
        x.set(0, ASKED, 0);
        due("of nothing", x.pull(0, 3), 0);
    }

    @Sentence(promise = 11, says = "BEYOND.")
    static void pullBeyond() {
        refused("pull(0, 0), nobody is there", BucketGift::image, x -> x.pull(0, 0), BEYOND);
        range("pull(_, 0)", 0, 5, (x, v) -> x.pull(v, 0));
        range("pull(0, _)", 0, 3, (x, v) -> x.pull(0, v));
    }

    @Sentence(promise = 12, says = "n DAYS go (1 to 60): THIRST of all together then.")
    static void daysGo() {
        BucketGift x = quiet();
        needsAndHas(x, 0, 1, 0);
        needsAndHas(x, 1, 1, 30);
        due("days(1)", x.days(1), 1);
        due("DAY", x.now(0), 1);
        due("days(60)", x.days(60), 61 + 31);
        due("DAY", x.now(0), 61);
        x.farm(2, THIRST, 9999);
        due("with another farm's", x.days(1), 62 + 32 + 9999);
        for (int f = 0; f < 4; f++) {
            needsAndHas(x, f, 1, 0);
            x.farm(f, THIRST, 9999);
        }
        due("held, all four", x.days(60), 4 * 9999);
    }

    @Sentence(promise = 12, says = "BEYOND.")
    static void daysBeyond() {
        range("days(_)", 1, 60, (x, v) -> x.days(v));
    }

    private static void day9939(BucketGift x) {
        x.person(STRANGER);
        for (int i = 0; i < 165; i++) {
            x.days(60);
        }
        x.days(39);
    }

    @Sentence(promise = 12, says = "STATE: DAY would be above 9999.")
    static void daysState() {
        BucketGift x = Twins.made(DaysSentences::day9939);
        due("DAY", x.now(0), 9939);
        due("60 more", x.days(60) > -1000000000);
        due("DAY", x.now(0), 9999);
        refused("one more than the last", Twins::lastDay, y -> y.days(1), STATE);
        refused("60 more than the last", Twins::lastDay, y -> y.days(60), STATE);
        BucketGift z = Twins.made(DaysSentences::day9939);
        z.days(1);
        due("60 from 9940", z.days(60), STATE);
        due("no day of them goes", z.now(0), 9940);
        due("59 from 9940", z.days(59) > -1000000000);
        due("DAY", z.now(0), 9999);
    }

    @Sentence(promise = 13, says = "What 0 DAY, 1 THE WELL, 2 SPRING, 3 BOTTOM, 4 STORES of all together, "
        + "5 THIRST of all together, 6 NEEDS of all together.")
    static void whatsOfNow() {
        BucketGift x = with();
        int[] first = {0, 100, 10, 0, 20, 0, 12};
        for (int what = 0; what < 7; what++) {
            due("at first: now(" + what + ")", x.now(what), first[what]);
        }
        x.days(2);
        x.water(WELL, 9999);
        x.water(SPRING, 99);
        x.water(BOTTOM, 5);
        for (int f = 0; f < 4; f++) {
            x.farm(f, NEED, 20 - f);
            x.farm(f, STORE, 9999 - f);
            x.farm(f, THIRST, 9990 - f);
        }
        int[] most = {2, 9999, 99, 5, 39990, 39954, 74};
        for (int what = 0; what < 7; what++) {
            due("now(" + what + ")", x.now(what), most[what]);
            int asked = what;
            onlyAsks("now(" + what + ")", y -> y.now(asked));
        }
    }

    @Sentence(promise = 13, says = "BEYOND.")
    static void nowBeyond() {
        range("now(_)", 0, 6, (x, v) -> x.now(v));
    }

    @Sentence(promise = 14, says = "STORE of a FARM (what 1), its THIRST (2) ON n DAYS (0 to 60).")
    static void onDays() {
        BucketGift x = quiet(FARMER);
        needsAndHas(x, 1, 5, 33);
        x.farm(1, SENDS, 0);
        x.farm(1, THIRST, 7);
        for (int n = 0; n <= 33; n++) {
            due("STORE ON " + n, x.on(1, n, STORE), 33 - n);
            due("THIRST ON " + n, x.on(1, n, THIRST), 7);
        }
        due("THIRST ON 34", x.on(1, 34, THIRST), 8);
        due("THIRST ON 60", x.on(1, 60, THIRST), 7 + 27);
        due("THIRST ON 59", x.on(1, 59, THIRST), 7 + 26);
        due("another farm's STORE", x.on(2, 60, STORE), 0);
        due("nothing went", x.now(0), 0);
        BucketGift last = Twins.made(Twins::lastDay);
        last.farm(2, STORE, 0);
        due("at the last DAY", last.on(2, 60, STORE), 60 * (10 - 3));
    }

    @Sentence(promise = 14, says = "BEYOND.")
    static void onBeyond() {
        range("on(_, 1, 1)", 0, 3, (x, v) -> x.on(v, 1, STORE));
        range("on(0, _, 1)", 0, 60, (x, v) -> x.on(0, v, STORE));
        range("on(0, 1, _)", 1, 2, (x, v) -> x.on(0, 1, v));
        range("on(0, 0, _)", 1, 2, (x, v) -> x.on(0, 0, v));
    }

    @Sentence(promise = 15, says = "In how many DAYS (1 to 60) ON a FARM is dry first.")
    static void dryFirst() {
        for (int days : new int[] {1, 2, 59, 60}) {
            BucketGift x = quiet();
            needsAndHas(x, 2, 1, days - 1);
            due("day " + days, x.dry(2), days);
            due("nothing went", x.now(0), 0);
        }
        BucketGift x = quiet();
        needsAndHas(x, 2, 1, 0);
        x.farm(2, THIRST, 9999);
        due("with THIRST held", x.dry(2), 1);
        x.days(1);
        needsAndHas(x, 2, 1, 3);
        due("dry yesterday doesn't count", x.dry(2), 4);
        due("another farm", x.dry(1), NONE);
        BucketGift last = Twins.made(Twins::lastDay);
        due("at the last DAY", last.dry(1), 1);
    }

    private static void enoughFor60(BucketGift x) {
        Twins.busy(x);
        x.farm(0, NEED, 1);
        x.farm(0, STORE, 60);
        x.farm(0, SENDS, -1);
    }

    @Sentence(promise = 15, says = "NONE.")
    static void dryNone() {
        refused("STORE for 60 days", DaysSentences::enoughFor60, x -> x.dry(0), NONE);
        BucketGift x = Twins.made(DaysSentences::enoughFor60);
        x.farm(0, STORE, 59);
        due("STORE for 59 days", x.dry(0), 60);
        x.farm(0, NEED, 0);
        x.farm(0, STORE, 0);
        due("no NEED", x.dry(0), NONE);
    }

    @Sentence(promise = 15, says = "BEYOND.")
    static void dryBeyond() {
        for (int v : new int[] {-1, 4, MIN, MAX}) {
            refused("dry(" + v + ")", x -> x.dry(v), BEYOND);
        }
    }
}
