/** The section 'Terms', but for the text. */
final class TermsSentences extends SentenceTests {
    @Sentence(says = "FINDINGS are answers below -1000000000: -1000000001 BEYOND, -1000000002 FULL, "
        + "-1000000003 KIND, -1000000004 NONE, -1000000005 STATE, -1000000006 MISSING, -1000000007 SIZE")
    static void findingsHaveTheirNumbers() {
        due("BEYOND", with().now(7), -1000000001);
        due("FULL", Twins.made(Twins::full).person(0), -1000000002);
        due("KIND", with(FARMER).as(0, LAZY), -1000000003);
        due("NONE", with().undo(), -1000000004);
        due("STATE", Twins.made(Twins::lastDay).days(1), -1000000005);
        due("MISSING", with().lays(0), -1000000006);
        due("SIZE", with().sheet(0, 8, -1), -1000000007);
    }

    @Sentence(says = "(in longs, too)")
    static void findingsInLongs() {
        due("BEYOND", with().write(4, 0, 0), -1000000001L);
        due("MISSING", with().write(0, 0, 0), -1000000006L);
        BucketGift x = with();
        x.sheet(0, 64, 1);
        due("BEYOND of a number", x.write(0, 1, 0), -1000000001L);
    }

    @Sentence(says = "Each act tells its findings in the order in which they are asked")
    static void findingsInTheirOrder() {
        refused("person: BEYOND before FULL", Twins::full, x -> x.person(6), BEYOND);
        refused("as: BEYOND before KIND", x -> x.as(0, 6), BEYOND);
        refused("days: BEYOND before STATE", Twins::lastDay, x -> x.days(61), BEYOND);
        refused("days(0): BEYOND before STATE", Twins::lastDay, x -> x.days(0), BEYOND);
        refused("send: BEYOND before NONE, farm", BucketGift::image, x -> x.send(4, 1), BEYOND);
        refused("send: BEYOND before NONE, n", BucketGift::image, x -> x.send(0, 0), BEYOND);
        refused("round: BEYOND before NONE", BucketGift::image, x -> x.round(8), BEYOND);
        refused("feed: BEYOND before FULL", Twins::full, x -> x.feed(0, 5), BEYOND);
        refused("sheet: BEYOND, no such sheet, before SIZE", x -> x.sheet(4, 8, -1), BEYOND);
        refused("sheet: BEYOND, other bits, before SIZE", x -> x.sheet(0, 9, -1), BEYOND);
        refused("write: BEYOND before MISSING", x -> x.write(-1, -1, 0), BEYOND);
        refused("write: MISSING before BEYOND", x -> x.write(3, -1, 0), MISSING);
        refused("copy: BEYOND before MISSING", x -> x.copy(3, 0, 4, 0, 0), BEYOND);
        refused("copy: BEYOND before MISSING, the first", x -> x.copy(4, 0, 3, 0, 0), BEYOND);
        refused("copy: MISSING before KIND", x -> x.copy(0, 0, 3, 0, 0), MISSING);
        refused("copy: MISSING before BEYOND", x -> x.copy(3, -1, 0, -1, -1), MISSING);
        refused("copy: KIND before BEYOND", x -> x.copy(0, -1, 1, -1, -1), KIND);
        refused("book: MISSING before BEYOND", x -> x.book(3, 4), MISSING);
        refused("book: BEYOND before MISSING", x -> x.book(4, 4), BEYOND);
        refused("read: MISSING before BEYOND", x -> x.read(3, 4), MISSING);
        refused("read: BEYOND before MISSING", x -> x.read(4, 4), BEYOND);
    }

    @Sentence(says = "one that answers a finding changes nothing but status()")
    static void refusedCallsChangeNothing() {
        refused("farm", x -> x.farm(0, STORE, 10000), BEYOND);
        refused("water", x -> x.water(WELL, 10000), BEYOND);
        refused("person", Twins::full, x -> x.person(0), FULL);
        refused("set", x -> x.set(0, DEEDS, 256), BEYOND);
        refused("turn", x -> x.turn(0, 6), BEYOND);
        refused("does", x -> x.does(0, 8), BEYOND);
        refused("pull", x -> x.pull(0, 4), BEYOND);
        refused("days", Twins::lastDay, x -> x.days(1), STATE);
        refused("dry", Twins::busy, x -> x.dry(-1), BEYOND);
        refused("feed", Twins::full, x -> x.feed('7', 1), FULL);
        refused("sheet", x -> x.sheet(0, 8, 41), BEYOND);
        refused("sheet, bits 0", x -> x.sheet(0, 0, -1), SIZE);
        refused("write", x -> x.write(0, 3, 7), BEYOND);
        refused("copy", x -> x.copy(0, 0, 0, 1, 3), BEYOND);
        refused("lays", x -> x.lays(3), MISSING);
        refused("book", x -> x.book(0, 4), BEYOND);
        refused("undo", Twins::torn, BucketGift::undo, NONE);
        refused("status", x -> x.status(7), BEYOND);
    }

    @Sentence(says = "Quotients are cut.")
    static void quotientsAreCut() {
        BucketGift x = with(KINDLY, LAZY);
        x.set(0, DEEDS, 1 << 4);
        due("half of 3", x.of(0, DESERVES), 1);
        x.set(0, DEEDS, 7 << 4);
        due("half of 1", x.of(0, DESERVES), 0);
        x.set(1, ASKED, 1);
        due("half of 7", x.of(1, GIVES), 3);
        x.set(1, ASKED, 2);
        due("half of 3, cut already", x.of(1, GIVES), 1);
    }

    @Sentence(says = "Sets are told by bits.")
    static void setsAreBits() {
        for (int deed = 0; deed < 8; deed++) {
            BucketGift x = with(FARMER);
            x.does(0, deed);
            due("deed " + deed, x.of(0, DEEDS), 1 << deed);
        }
    }

    @Sentence(says = "FARMS 0 to 3")
    static void fourFarms() {
        range("farmOf(_, 0)", 0, 3, (x, v) -> x.farmOf(v, 0));
    }

    private static void farmHolds(int what, int first, int least, int most) {
        for (int f = 0; f < 4; f++) {
            int farm = f;
            BucketGift x = with();
            due("farm " + f + " at first", x.farmOf(f, what), first);
            x.farm(f, what, most);
            due("the most of farm " + f, x.farmOf(f, what), most);
            x.farm(f, what, least);
            due("the least of farm " + f, x.farmOf(f, what), least);
            range("farm(" + f + ", " + what + ", _)", least, most, (y, v) -> y.farm(farm, what, v));
        }
    }

    @Sentence(says = "a NEED (0 to 20 a day; 3 at first)")
    static void needOfAFarm() {
        farmHolds(NEED, 3, 0, 20);
        BucketGift x = quiet();
        needsAndHas(x, 1, 20, 41);
        needsAndHas(x, 2, 0, 41);
        due("STORE of 41, twice 20 less", x.on(1, 2, STORE), 1);
        due("STORE of 41, twice 0 less", x.on(2, 2, STORE), 41);
    }

    @Sentence(says = "a STORE (0 to 9999; 5 at first)")
    static void storeOfAFarm() {
        farmHolds(STORE, 5, 0, 9999);
    }

    @Sentence(says = "THIRST (how many DAYS it was dry; 0 at first, held to 9999)")
    static void thirstOfAFarm() {
        farmHolds(THIRST, 0, 0, 9999);
        BucketGift x = quiet();
        needsAndHas(x, 3, 1, 1);
        x.farm(3, THIRST, 9997);
        int[] want = {9997, 9998, 9999, 9999};
        for (int day = 1; day <= want.length; day++) {
            x.days(1);
            due("after day " + day, x.farmOf(3, THIRST), want[day - 1]);
        }
    }

    @Sentence(says = "whom it SENDS (a number of PEOPLE, or nobody: -1; so at first)")
    static void sentByAFarm() {
        for (int f = 0; f < 4; f++) {
            int farm = f;
            due("farm " + f + " at first", with(FARMER).farmOf(f, SENDS), -1);
            range("farm(" + f + ", 3, _) of six", -1, 5, (x, v) -> x.farm(farm, SENDS, v));
        }
        BucketGift y = quiet(FARMER, STRANGER);
        y.farm(0, SENDS, 1);
        due("number 1 is sent", y.on(0, 1, STORE), 12);
        y.farm(0, SENDS, -1);
        due("nobody is sent", y.on(0, 1, STORE), 0);
    }

    private static void waterHolds(int what, int first, int most) {
        BucketGift x = with();
        due("at first", x.now(what + 1), first);
        x.water(what, most);
        due("the most", x.now(what + 1), most);
        x.water(what, 0);
        due("the least", x.now(what + 1), 0);
        range("water(" + what + ", _)", 0, most, (y, v) -> y.water(what, v));
    }

    @Sentence(says = "THE WELL: 0 to 9999 (100 at first)")
    static void well() {
        waterHolds(WELL, 100, 9999);
    }

    @Sentence(says = "SPRING (0 to 99 a day; 10 at first)")
    static void spring() {
        waterHolds(SPRING, 10, 99);
        BucketGift x = with();
        x.water(WELL, 0);
        x.water(SPRING, 99);
        x.days(1);
        due("the most, a day", x.now(1), 99);
        x.water(SPRING, 0);
        x.days(1);
        due("the least, a day", x.now(1), 99);
    }

    @Sentence(says = "BOTTOM (0 to 5; 0 at first)")
    static void bottom() {
        waterHolds(BOTTOM, 0, 5);
    }

    @Sentence(says = "DAY: 0 at first (9999 at most)")
    static void day() {
        due("at first", with().now(0), 0);
        BucketGift x = Twins.made(Twins::lastDay);
        due("at most", x.now(0), 9999);
        refused("one more", Twins::lastDay, y -> y.days(1), STATE);
    }

    @Sentence(says = "PEOPLE 0, 1, .. (at most 8)")
    static void eightPeople() {
        BucketGift x = with();
        due("nobody", x.count(0), 0);
        for (int p = 0; p < 8; p++) {
            due("number " + p, x.person(FARMER), p);
        }
        due("the ninth", x.person(FARMER), FULL);
        due("eight", x.count(0), 8);
    }

    @Sentence(says = "0 FARMER, 1 LAZY under FARMER, 2 KIND under FARMER, 3 STRANGER under FARMER, "
        + "4 SHAM under LAZY, 5 PRIEST under KIND")
    static void kindsUnderKinds() {
        String[] above = {"0", "01", "02", "03", "014", "025"};
        for (int kind = 0; kind < 6; kind++) {
            for (int other = 0; other < 6; other++) {
                boolean is = above[kind].indexOf('0' + other) >= 0;
                due(kind + " as " + other, with(kind).as(0, other), is ? 0 : KIND);
            }
        }
    }

    @Sentence(says = "DEEDS (a set of 0 to 7: 0 to 3 are good, 4 to 7 bad; none at first)")
    static void goodAndBadDeeds() {
        due("none at first", with(FARMER).of(0, DEEDS), 0);
        for (int deed = 0; deed < 8; deed++) {
            due("does(0, " + deed + ")", with(FARMER).does(0, deed), deed < 4 ? 6 : 3);
        }
        range("does(0, _)", 0, 7, (x, v) -> x.does(0, v));
    }

    @Sentence(says = "a STEP (the number of one of PEOPLE; its own at first)")
    static void stepOfOne() {
        BucketGift x = with(0, 1, 2, 3, 4, 5, 0, 1);
        for (int p = 0; p < 8; p++) {
            due("its own: " + p, x.of(p, STEP), p);
        }
        range("set(0, 2, _)", Twins::full, 0, 7, (y, v) -> y.set(0, STEP, v));
        range("set(1, 2, _) of six", 0, 5, (y, v) -> y.set(1, STEP, v));
    }

    @Sentence(says = "ASKED (how often today; 0 at first, held to 9)")
    static void askedIsHeld() {
        BucketGift x = with(FARMER);
        due("at first", x.of(0, ASKED), 0);
        for (int times = 1; times <= 12; times++) {
            x.pull(0, 0);
            due("after " + times, x.of(0, ASKED), Math.min(9, times));
        }
        range("set(0, 3, _)", 0, 9, (y, v) -> y.set(0, ASKED, v));
    }

    private static int farmers(int deeds) {
        return 4 + 2 * Integer.bitCount(deeds % 16) - Integer.bitCount(deeds / 16);
    }

    private static void deserves(int kind, int deeds, int want) {
        BucketGift x = with(kind);
        x.set(0, DEEDS, deeds);
        due("kind " + kind + " with deeds " + deeds, x.of(0, DESERVES), want);
    }

    @Sentence(says = "FARMER: 4, and 2 for each good one, less 1 for each bad one (0 at least)")
    static void farmerDeserves() {
        deserves(FARMER, 0, 4);
        deserves(FARMER, 15, 12);
        deserves(FARMER, 240, 0);
        for (int deeds = 0; deeds < 256; deeds++) {
            deserves(FARMER, deeds, farmers(deeds));
        }
    }

    @Sentence(says = "LAZY: as FARMER, and 3")
    static void lazyDeserves() {
        for (int deeds = 0; deeds < 256; deeds++) {
            deserves(LAZY, deeds, farmers(deeds) + 3);
        }
    }

    @Sentence(says = "KIND: half of as FARMER")
    static void kindDeserves() {
        for (int deeds = 0; deeds < 256; deeds++) {
            deserves(KINDLY, deeds, farmers(deeds) / 2);
        }
    }

    @Sentence(says = "STRANGER: 12, if there is no bad one, else as FARMER")
    static void strangerDeserves() {
        for (int deeds = 0; deeds < 256; deeds++) {
            deserves(STRANGER, deeds, deeds < 16 ? 12 : farmers(deeds));
        }
    }

    @Sentence(says = "SHAM: as LAZY, less 2 (0 at least)")
    static void shamDeserves() {
        for (int deeds = 0; deeds < 256; deeds++) {
            deserves(SHAM, deeds, farmers(deeds) + 1);
        }
    }

    @Sentence(says = "PRIEST: as KIND, but 0 with DEED 0")
    static void priestDeserves() {
        for (int deeds = 0; deeds < 256; deeds++) {
            deserves(PRIEST, deeds, deeds % 2 == 1 ? 0 : farmers(deeds) / 2);
        }
    }

    @Sentence(says = "GIVES (to one, now): what it DESERVES, and BOTTOM")
    static void givesWithBottom() {
        int[] deserved = {4, 7, 2, 12, 5, 2};
        for (int kind = 0; kind < 6; kind++) {
            for (int bottom = 0; bottom <= 5; bottom++) {
                BucketGift x = with(kind);
                x.water(BOTTOM, bottom);
                due("kind " + kind + ", bottom " + bottom, x.of(0, GIVES), deserved[kind] + bottom);
                due("what it deserves is the same", x.of(0, DESERVES), deserved[kind]);
            }
        }
    }

    private static BucketGift shamAsPriestWithDeed0(int bottom) {
        BucketGift x = with(SHAM, PRIEST);
        x.does(1, 0);
        x.set(0, STEP, 1);
        x.water(BOTTOM, bottom);
        return x;
    }

    @Sentence(says = "to a SHAM whose STEP is another one's what that one DESERVES, and BOTTOM, less 1 (0 at least)")
    static void givesToASham() {
        due("its own step", with(SHAM).of(0, GIVES), 5);
        BucketGift x = with(SHAM, STRANGER, SHAM, FARMER);
        x.set(0, STEP, 1);
        due("a stranger's", x.of(0, GIVES), 11);
        x.water(BOTTOM, 5);
        due("with BOTTOM", x.of(0, GIVES), 16);
        x.set(1, ASKED, 9);
        due("what that one deserves, not what it gives to it", x.of(0, GIVES), 16);
        x.set(0, STEP, 2);
        x.set(2, STEP, 1);
        due("a sham's, who goes with a stranger's", x.of(0, GIVES), 9);
        x.set(0, STEP, 0);
        due("its own again", x.of(0, GIVES), 10);
        x.set(3, STEP, 1);
        due("one who is no sham", x.of(3, GIVES), 9);
        due("what a sham deserves is by its own deeds", x.of(2, DESERVES), 5);
        int[] want = {0, 0, 1, 2, 3, 4};
        for (int bottom = 0; bottom <= 5; bottom++) {
            due("0 at least, bottom " + bottom, shamAsPriestWithDeed0(bottom).of(0, GIVES), want[bottom]);
        }
        due("the well loses nothing then", shamAsPriestWithDeed0(0).pull(0, 0), 0);
    }

    @Sentence(says = "For each time that it ASKED today half of that (cut).")
    static void halvesForAsking() {
        BucketGift x = with(STRANGER, SHAM);
        x.water(BOTTOM, 5);
        int[] want = {17, 8, 4, 2, 1, 0, 0, 0, 0, 0};
        for (int asked = 0; asked < want.length; asked++) {
            x.set(0, ASKED, asked);
            due("17, asked " + asked, x.of(0, GIVES), want[asked]);
        }
        x.set(1, STEP, 0);
        due("by the step of one who asked", x.of(1, GIVES), 16);
        x.set(1, ASKED, 1);
        due("half of all that, the 1 less too", x.of(1, GIVES), 8);
    }

    @Sentence(says = "No more than there is in THE WELL.")
    static void noMoreThanTheWell() {
        BucketGift x = with(STRANGER);
        int[][] rows = {{13, 12}, {12, 12}, {11, 11}, {1, 1}, {0, 0}};
        for (int[] row : rows) {
            x.water(WELL, row[0]);
            due("of " + row[0], x.of(0, GIVES), row[1]);
        }
        x.set(0, ASKED, 1);
        x.water(WELL, 7);
        due("half first, of 7", x.of(0, GIVES), 6);
        x.water(WELL, 5);
        due("half first, of 5", x.of(0, GIVES), 5);
    }

    @Sentence(says = "its STORE is what it GIVES more (9999 at most), THE WELL so much less; ASKED is 1 more")
    static void aPull() {
        int[][] rows = {{0, 12}, {9986, 9998}, {9987, 9999}, {9988, 9999}, {9999, 9999}};
        for (int[] row : rows) {
            BucketGift x = with(STRANGER);
            x.farm(1, STORE, row[0]);
            due("it gives", x.pull(0, 1), 12);
            due("STORE of " + row[0], x.farmOf(1, STORE), row[1]);
            due("THE WELL", x.now(1), 88);
            due("ASKED", x.of(0, ASKED), 1);
        }
        BucketGift y = with(STRANGER);
        y.water(WELL, 5);
        y.pull(0, 1);
        due("THE WELL isn't below 0", y.now(1), 0);
        due("ASKED all the same", y.of(0, ASKED), 1);
        y.pull(0, 1);
        due("nothing came", y.farmOf(1, STORE), 10);
        due("ASKED, though nothing came", y.of(0, ASKED), 2);
    }

    @Sentence(says = "A DAY goes: FARMS by numbers: whom it SENDS PULLS for it.")
    static void farmsByNumbers() {
        BucketGift x = quiet(STRANGER);
        for (int f = 3; f >= 0; f--) {
            x.farm(f, SENDS, 0);
        }
        int[] halves = {12, 6, 3, 1};
        for (int f = 0; f < 4; f++) {
            due("STORE of " + f, x.on(f, 1, STORE), halves[f]);
        }
        BucketGift y = quiet(STRANGER, STRANGER);
        y.water(WELL, 15);
        y.farm(3, SENDS, 0);
        y.farm(1, SENDS, 1);
        due("the first of two", y.on(1, 1, STORE), 12);
        due("what it left", y.on(3, 1, STORE), 3);
        due("nobody is sent", y.on(0, 1, STORE), 0);
    }

    @Sentence(says = "Then each FARM uses its NEED: if STORE is less, it is dry: THIRST is 1 more, STORE 0.")
    static void farmsUseTheirNeed() {
        int[][] rows = {{7, 8, 0, 1}, {7, 7, 0, 0}, {7, 6, 1, 0}, {7, 0, 1, 0}, {0, 0, 0, 0}, {20, 19, 1, 0}};
        for (int[] row : rows) {
            BucketGift x = quiet();
            needsAndHas(x, 2, row[0], row[1]);
            x.days(1);
            due("THIRST, NEED " + row[0] + ", STORE " + row[1], x.farmOf(2, THIRST), row[2]);
            due("STORE, NEED " + row[0] + ", STORE " + row[1], x.farmOf(2, STORE), row[3]);
        }
        BucketGift y = quiet(FARMER);
        needsAndHas(y, 0, 4, 0);
        y.farm(0, SENDS, 0);
        y.days(1);
        due("what came today is used today", y.farmOf(0, THIRST), 0);
        BucketGift z = quiet(STRANGER);
        needsAndHas(z, 0, 5, 9995);
        z.farm(0, SENDS, 0);
        z.days(1);
        due("9999 at most, before it uses its need", z.farmOf(0, STORE), 9994);
    }

    @Sentence(says = "Then ASKED of all are 0")
    static void askedEndsWithTheDay() {
        BucketGift x = with(0, 0, 0, 0, 0, 0, 0, 0);
        for (int p = 0; p < 8; p++) {
            x.set(p, ASKED, 9 - p);
        }
        x.farm(0, SENDS, 0);
        x.days(1);
        for (int p = 0; p < 8; p++) {
            due("of " + p, x.of(p, ASKED), 0);
        }
        BucketGift y = quiet(FARMER);
        y.farm(0, SENDS, 0);
        y.set(0, ASKED, 1);
        due("but who asked before is given half on that day", y.on(0, 1, STORE), 2);
        due("and all on the next", y.on(0, 2, STORE), 6);
    }

    @Sentence(says = "of DEEDS the least one of each is gone")
    static void theLeastDeedIsGone() {
        int[][] rows = {{0, 0}, {1, 0}, {128, 0}, {129, 128}, {255, 254}, {240, 224}, {192, 128}, {6, 4}};
        BucketGift x = with(0, 1, 2, 3, 4, 5, 0, 1);
        for (int p = 0; p < 8; p++) {
            x.set(p, DEEDS, rows[p][0]);
        }
        x.days(1);
        for (int p = 0; p < 8; p++) {
            due("of " + rows[p][0], x.of(p, DEEDS), rows[p][1]);
        }
        BucketGift y = quiet(FARMER);
        y.farm(0, SENDS, 0);
        y.does(0, 2);
        due("it counts on that day still", y.on(0, 1, STORE), 6);
        due("and no more on the next", y.on(0, 2, STORE), 10);
    }

    @Sentence(says = "THE WELL is SPRING more (9999 at most)")
    static void theSpringFlows() {
        int[][] rows = {{0, 99}, {9899, 9998}, {9900, 9999}, {9901, 9999}, {9999, 9999}};
        for (int[] row : rows) {
            BucketGift x = with();
            x.water(WELL, row[0]);
            x.water(SPRING, 99);
            x.days(1);
            due("THE WELL of " + row[0], x.now(1), row[1]);
        }
        BucketGift y = quiet(FARMER);
        y.water(WELL, 0);
        y.farm(0, SENDS, 0);
        due("it comes after the pulls of the day", y.on(0, 1, STORE), 0);
        due("for those of the next", y.on(0, 2, STORE), 4);
    }

    @Sentence(says = "DAY is 1 more.")
    static void theDayIsOneMore() {
        BucketGift x = with();
        for (int day = 1; day <= 3; day++) {
            x.days(1);
            due("after " + day, x.now(0), day);
        }
    }

    @Sentence(says = "ON: n DAYS go on with all as it is; nothing changes.")
    static void onChangesNothing() {
        onlyAsks("on(1, 60, 1)", x -> x.on(1, 60, STORE));
        onlyAsks("on(1, 0, 2)", x -> x.on(1, 0, THIRST));
        onlyAsks("dry(3)", x -> x.dry(3));
        onlyAsks("send(2, 20)", x -> x.send(2, 20));
        onlyAsks("round(7)", x -> x.round(7));
        onlyAsks("spring(20)", x -> x.spring(20));
        onlyAsks("enough(3, 20)", x -> x.enough(3, 20));
        onlyAsks("worth(1, 20)", x -> x.worth(1, 20));
        onlyAsks("read(0, 1)", x -> x.read(0, 1));
        refused("dry(1), NONE", TermsSentences::busyWithoutNeed, x -> x.dry(1), NONE);
    }

    private static void busyWithoutNeed(BucketGift x) {
        Twins.busy(x);
        x.farm(1, NEED, 0);
    }

    @Sentence(says = "DRY: how much THIRST of all is more by then.")
    static void dryIsOfAllFarms() {
        BucketGift x = quiet(STRANGER, FARMER);
        x.water(WELL, 5);
        needsAndHas(x, 0, 3, 0);
        needsAndHas(x, 1, 1, 0);
        x.farm(1, SENDS, 1);
        due("who leaves something for the others", x.send(0, 1), 1);
        x.farm(1, THIRST, 9998);
        due("THIRST up to 9999 is more", x.send(0, 1), 1);
        x.farm(1, THIRST, 9999);
        due("THIRST at 9999 is no more", x.send(0, 1), 0);
        x.farm(0, THIRST, 70);
        x.farm(1, THIRST, 80);
        due("what there was before doesn't count", x.send(0, 1), 1);
    }

    @Sentence(says = "SHEETS 0 to 3 are rows of at most 40 numbers of 8, 16 or 64 bits, or MISSING (at first).")
    static void fourSheets() {
        for (int s = 0; s < 4; s++) {
            BucketGift x = with();
            due("MISSING at first: " + s, x.lays(s), MISSING);
            for (int bits : new int[] {8, 16, 64}) {
                due("40 numbers", x.sheet(s, bits, 40), 40);
                due("the last", x.write(s, 39, 1), 0);
                due("behind it", x.write(s, 40, 1), BEYOND);
            }
        }
        range("sheet(_, 8, 1)", 0, 3, (x, v) -> x.sheet(v, 8, 1));
    }
}
