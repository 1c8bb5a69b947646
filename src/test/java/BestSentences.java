/** Promises 16 to 25. */
final class BestSentences extends SentenceTests {
    @Sentence(promise = 16, says = "The one to whom most is GIVEN now")
    static void favouriteNow() {
        due("the only one", with(PRIEST).favourite(), 0);
        BucketGift x = with(FARMER, LAZY, STRANGER, KINDLY, SHAM, PRIEST, FARMER, FARMER);
        due("a stranger", x.favourite(), 2);
        x.set(2, ASKED, 1);
        due("who asked is given half", x.favourite(), 1);
        x.set(7, DEEDS, 15);
        due("the last of eight", x.favourite(), 7);
        x.set(7, ASKED, 1);
        x.set(4, STEP, 7);
        due("a sham by a good one's step", x.favourite(), 4);
        onlyAsks("favourite()", BucketGift::favourite);
    }

    @Sentence(promise = 16, says = "of several the least")
    static void favouriteOfSeveral() {
        due("of two", with(FARMER, LAZY, LAZY).favourite(), 1);
        BucketGift x = with(PRIEST, FARMER, STRANGER);
        x.water(WELL, 2);
        due("all that there is, to each", x.favourite(), 0);
        x.water(WELL, 3);
        due("all that there is, to two", x.favourite(), 1);
        x.water(WELL, 0);
        due("nothing, to each", x.favourite(), 0);
    }

    @Sentence(promise = 16, says = "NONE: there is nobody.")
    static void favouriteNone() {
        refused("favourite()", BucketGift::image, BucketGift::favourite, NONE);
    }

    /** A farm that a KIND one (2 a day) leaves dry on that day first, a FARMER (4) never. */
    private static BucketGift dryOnDay(int farm, int day, int... kinds) {
        BucketGift x = quiet(kinds);
        needsAndHas(x, farm, 3, day - 1);
        return x;
    }

    @Sentence(promise = 17, says = "so that DRY is least ON n DAYS (1 to 20)")
    static void sendForSoManyDays() {
        for (int farm = 0; farm < 4; farm++) {
            for (int n : new int[] {1, 2, 19, 20}) {
                BucketGift x = dryOnDay(farm, n, KINDLY, FARMER);
                due("dry on day " + n, x.send(farm, n), 1);
                due("whomever it sends now", x.farmOf(farm, SENDS), -1);
                if (n > 1) {
                    due("dry on day " + n + ", a day less", x.send(farm, n - 1), 0);
                }
            }
        }
        BucketGift y = dryOnDay(0, 1, KINDLY, FARMER, KINDLY);
        y.farm(0, SENDS, 2);
        due("another than it sends now", y.send(0, 20), 1);
        y.farm(1, SENDS, 1);
        due("one whom another farm sends too", y.send(0, 20), 1);
        needsAndHas(y, 1, 4, 0);
        y.farm(0, NEED, 2);
        due("but not to that farm's harm", y.send(0, 20), 0);
    }

    @Sentence(promise = 17, says = "of several the least")
    static void sendOfSeveral() {
        due("no farm is dry", quiet(STRANGER, LAZY).send(3, 20), 0);
        due("two are enough", dryOnDay(0, 1, PRIEST, KINDLY, STRANGER, FARMER).send(0, 20), 2);
        BucketGift x = quiet(KINDLY, STRANGER);
        needsAndHas(x, 0, 20, 0);
        due("nobody helps", x.send(0, 20), 0);
        x.farm(0, SENDS, 1);
        due("nobody helps, not whom it sends", x.send(0, 20), 0);
    }

    @Sentence(promise = 17, says = "The one whom a FARM had best SEND")
    static void sendOneThoughNobodyWereBetter() {
        BucketGift x = quiet(STRANGER, FARMER);
        x.water(WELL, 12);
        x.water(SPRING, 12);
        needsAndHas(x, 1, 4, 0);
        x.farm(1, SENDS, 1);
        due("each of the two leaves FARM 1 dry", x.send(0, 20), 0);
        x.person(PRIEST);
        due("a third one doesn't", x.send(0, 20), 2);
    }

    @Sentence(promise = 17, says = "BEYOND.")
    static void sendBeyond() {
        range("send(_, 1)", 0, 3, (x, v) -> x.send(v, 1));
        range("send(0, _)", 1, 20, (x, v) -> x.send(0, v));
    }

    @Sentence(promise = 17, says = "NONE: there is nobody.")
    static void sendNone() {
        refused("send(0, 1)", BucketGift::image, x -> x.send(0, 1), NONE);
        refused("send(3, 20)", BucketGift::image, x -> x.send(3, 20), NONE);
        due("one is there", with(PRIEST).send(0, 1), 0);
    }

    @Sentence(promise = 18, says = "Whom all four FARMS had best SEND, each another one, so that DRY is least ON n DAYS (1 to 7)")
    static void roundForSoManyDays() {
        for (int n : new int[] {1, 2, 6, 7}) {
            BucketGift x = dryOnDay(0, n, KINDLY, FARMER, FARMER, FARMER);
            due("dry on day " + n, x.round(n), 3201);
            if (n > 1) {
                due("dry on day " + n + ", a day less", x.round(n - 1), 3210);
            }
        }
        BucketGift y = quiet(STRANGER, PRIEST, PRIEST, PRIEST);
        for (int f = 0; f < 4; f++) {
            needsAndHas(y, f, 12, 0);
        }
        due("one alone is good, and goes for one farm alone", y.round(7), 3210);
        y.farm(0, NEED, 20);
        due("for one that he helps", y.round(7), 3201);
        y.farm(0, SENDS, 3);
        y.farm(1, SENDS, 3);
        due("whom they send now counts for nothing", y.round(7), 3201);
    }

    @Sentence(promise = 18, says = "Whom all four FARMS had best SEND, each another one")
    static void roundOfFourThoughFewerWereBetter() {
        BucketGift x = quiet(STRANGER, STRANGER, STRANGER, STRANGER);
        x.water(WELL, 12);
        x.water(SPRING, 12);
        needsAndHas(x, 3, 12, 0);
        due("whoever goes for FARM 0 takes it all", x.round(7), 3210);
        x.person(PRIEST);
        due("one more, who leaves too little", x.round(7), 3210);
        x.farm(3, NEED, 10);
        x.person(PRIEST);
        x.does(4, 0);
        x.does(5, 0);
        x.person(PRIEST);
        x.does(6, 0);
        due("three on whom nothing is wasted for a day", x.round(1), 654);
    }

    @Sentence(promise = 18, says = "the one of FARM 0, and 10 times that of FARM 1, and so on")
    static void roundInTens() {
        int[] kinds = {PRIEST, PRIEST, PRIEST, PRIEST, FARMER, LAZY, SHAM, STRANGER};
        BucketGift x = quiet(kinds);
        needsAndHas(x, 0, 7, 0);
        needsAndHas(x, 1, 5, 0);
        needsAndHas(x, 2, 12, 0);
        needsAndHas(x, 3, 4, 0);
        due("5, 6, 7, 4", x.round(1), 4765);
        needsAndHas(x, 0, 12, 0);
        needsAndHas(x, 1, 7, 0);
        needsAndHas(x, 2, 5, 0);
        due("7, 5, 6, 4", x.round(1), 4657);
        needsAndHas(x, 3, 12, 0);
        needsAndHas(x, 0, 0, 0);
        due("0, 5, 6, 7", x.round(1), 7650);
    }

    @Sentence(promise = 18, says = "of several that with the least one for FARM 0, then for FARM 1, ..")
    static void roundOfSeveral() {
        due("any", quiet(3, 3, 3, 3, 3, 3, 3, 3).round(7), 3210);
        BucketGift x = quiet(FARMER, FARMER, FARMER, FARMER, STRANGER);
        needsAndHas(x, 0, 12, 0);
        due("4 for FARM 0", x.round(1), 2104);
        needsAndHas(x, 0, 0, 0);
        needsAndHas(x, 1, 12, 0);
        due("4 for FARM 1", x.round(1), 2140);
        needsAndHas(x, 1, 0, 0);
        needsAndHas(x, 2, 12, 0);
        due("4 for FARM 2", x.round(1), 2410);
        needsAndHas(x, 2, 0, 0);
        needsAndHas(x, 3, 12, 0);
        due("4 for FARM 3", x.round(1), 4210);
        needsAndHas(x, 0, 12, 0);
        due("for FARM 3, since FARM 0 has a lesser one then", x.round(1), 4210);
    }

    @Sentence(promise = 18, says = "BEYOND.")
    static void roundBeyond() {
        range("round(_)", 1, 7, (x, v) -> x.round(v));
    }

    @Sentence(promise = 18, says = "NONE: there are no four.")
    static void roundNone() {
        refused("nobody", BucketGift::image, x -> x.round(1), NONE);
        due("three", with(3, 3, 3).round(7), NONE);
        due("four", with(3, 3, 3, 3).round(7), 3210);
    }

    @Sentence(promise = 19, says = "The set of fewest DEEDS with which one DESERVES v (0 to 15) or more")
    static void fewestDeeds() {
        int[][] most = {{4, 6, 8, 10, 12}, {7, 9, 11, 13, 15}, {2, 3, 4, 5, 6}, {12}, {5, 7, 9, 11, 13}, {2, 3, 4, 5}};
        int[] sets = {0, 1, 3, 7, 15};
        int[] setsOfPriest = {0, 2, 6, 14};
        for (int kind = 0; kind < 6; kind++) {
            BucketGift x = with(kind);
            for (int v = 0; v <= 15; v++) {
                int many = 0;
                while (many < most[kind].length && most[kind][many] < v) {
                    many++;
                }
                int[] row = kind == PRIEST ? setsOfPriest : sets;
                int want = many < most[kind].length ? row[many] : NONE;
                due("kind " + kind + ", " + v, x.deeds(0, v), want);
            }
        }
        onlyAsks("deeds(1, 15)", y -> y.deeds(1, 15));
    }

    @Sentence(promise = 19, says = "DESERVES v (0 to 15) or more")
    static void deservesNotGives() {
        BucketGift x = with(SHAM, STRANGER);
        x.set(0, STEP, 1);
        x.set(0, ASKED, 9);
        x.set(0, DEEDS, 255);
        x.water(WELL, 0);
        x.water(BOTTOM, 5);
        due("0", x.deeds(0, 0), 0);
        due("5", x.deeds(0, 5), 0);
        due("6", x.deeds(0, 6), 1);
        due("13", x.deeds(0, 13), 15);
        due("14", x.deeds(0, 14), NONE);
    }

    @Sentence(promise = 19, says = "of several the least")
    static void deedsOfSeveral() {
        due("one good deed of four", with(FARMER).deeds(0, 5), 1);
        due("two good deeds of four", with(LAZY).deeds(0, 11), 3);
        due("one that leaves a priest something", with(PRIEST).deeds(0, 3), 2);
    }

    @Sentence(promise = 19, says = "BEYOND.")
    static void deedsBeyond() {
        refused("deeds(0, 0), nobody is there", BucketGift::image, x -> x.deeds(0, 0), BEYOND);
        range("deeds(_, 2)", 0, 5, (x, v) -> x.deeds(v, 2));
        range("deeds(1, _)", 0, 15, (x, v) -> x.deeds(1, v));
    }

    @Sentence(promise = 19, says = "NONE.")
    static void deedsNone() {
        int[] most = {12, 15, 6, 12, 13, 5};
        for (int p = 0; p < 6; p++) {
            int one = p;
            for (int v = most[p] + 1; v <= 15; v++) {
                int wanted = v;
                refused("deeds(" + p + ", " + v + ")", x -> x.deeds(one, wanted), NONE);
            }
        }
    }

    @Sentence(promise = 20, says = "The STEP with which most is GIVEN to one now")
    static void bestStep() {
        BucketGift x = with(SHAM, FARMER, FARMER, FARMER, FARMER, FARMER, FARMER, STRANGER);
        due("the last of eight", x.step(0), 7);
        due("it keeps its own", x.of(0, STEP), 0);
        x.set(7, DEEDS, 16);
        due("its own, which none beats", x.step(0), 0);
        x.set(5, DEEDS, 3);
        due("of one who deserves 8", x.step(0), 5);
        due("of the only one there", with(SHAM).step(0), 0);
        BucketGift y = with(STRANGER, FARMER, SHAM);
        y.set(2, DEEDS, 15);
        due("its own, since it did so much good itself", y.step(2), 2);
        y.set(2, DEEDS, 3);
        due("a stranger's, since it did less", y.step(2), 0);
        y.set(1, DEEDS, 15);
        y.turn(0, LAZY);
        due("what others did is nothing to one who is no sham", y.step(0), 0);
        onlyAsks("step(4)", z -> z.step(4));
    }

    @Sentence(promise = 20, says = "of several the least")
    static void stepOfSeveral() {
        BucketGift x = with(FARMER, STRANGER, SHAM, STRANGER, FARMER);
        due("of two strangers", x.step(2), 1);
        due("of any, for one who is no sham", x.step(3), 0);
        x.set(2, ASKED, 9);
        due("of any, since nothing is given", x.step(2), 0);
        x.set(2, ASKED, 0);
        x.water(WELL, 3);
        due("of any, since there are 3", x.step(2), 0);
        x.water(WELL, 4);
        due("of those with which 4 are given", x.step(2), 1);
        BucketGift y = with(KINDLY, SHAM, LAZY);
        y.does(1, 0);
        y.does(1, 4);
        due("6 with its own and 6 with a lazy one's", y.step(1), 1);
    }

    @Sentence(promise = 20, says = "BEYOND.")
    static void stepBeyond() {
        refused("step(0), nobody is there", BucketGift::image, x -> x.step(0), BEYOND);
        range("step(_)", 0, 5, (x, v) -> x.step(v));
    }

    @Sentence(promise = 21, says = "The KIND as one of which most is GIVEN to one now")
    static void bestKind() {
        int[][] rows = {{0, STRANGER}, {7, LAZY}, {16, LAZY}, {15, LAZY}, {240, LAZY}, {1, STRANGER}, {3, STRANGER}};
        for (int kind = 0; kind < 6; kind++) {
            for (int[] row : rows) {
                BucketGift x = with(kind);
                x.set(0, DEEDS, row[0]);
                due("deeds " + row[0] + ", kind " + kind, x.kind(0), row[1]);
                due("it keeps its own", x.of(0, 0), kind);
            }
        }
        BucketGift y = with(PRIEST, STRANGER);
        y.set(0, DEEDS, 16);
        y.set(0, STEP, 1);
        due("a sham, by a stranger's step", y.kind(0), SHAM);
        onlyAsks("kind(5)", z -> z.kind(5));
    }

    @Sentence(promise = 21, says = "of several the least")
    static void kindOfSeveral() {
        BucketGift x = with(PRIEST, STRANGER);
        x.water(WELL, 4);
        due("4 as any of four", x.kind(0), FARMER);
        x.water(WELL, 5);
        due("5 as any of three", x.kind(0), LAZY);
        x.water(WELL, 0);
        due("nothing as any", x.kind(0), FARMER);
        BucketGift y = with(FARMER, FARMER);
        y.set(1, ASKED, 9);
        due("nothing as any, asked nine times", y.kind(1), FARMER);
        y.set(1, ASKED, 3);
        due("1 as a stranger, asked three times", y.kind(1), STRANGER);
        x.water(WELL, 100);
        x.set(0, STEP, 1);
        x.set(0, DEEDS, 3);
        x.set(1, DEEDS, 3);
        due("12 as a stranger, 11 as a sham or a lazy one", x.kind(0), STRANGER);
        x.set(0, DEEDS, 3 + 16);
        x.turn(1, LAZY);
        due("10 as a lazy one and as a sham", x.kind(0), LAZY);
    }

    @Sentence(promise = 21, says = "BEYOND.")
    static void kindBeyond() {
        refused("kind(0), nobody is there", BucketGift::image, x -> x.kind(0), BEYOND);
        range("kind(_)", 0, 5, (x, v) -> x.kind(v));
    }

    /** FARM 0 needs 4 a day and is given 4, as long as there is water. */
    private static BucketGift waterForDays(int days) {
        BucketGift x = quiet(FARMER);
        needsAndHas(x, 0, 4, 0);
        x.farm(0, SENDS, 0);
        x.water(WELL, 4 * days);
        return x;
    }

    @Sentence(promise = 22, says = "The least SPRING (0 to 99) with which DRY is least ON n DAYS (1 to 20).")
    static void leastSpring() {
        due("water for 20 days", waterForDays(20).spring(20), 0);
        due("water for 19 days, ON 19", waterForDays(19).spring(19), 0);
        due("water for 19 days, ON 20", waterForDays(19).spring(20), 1);
        due("water for 1 day, ON 1", waterForDays(1).spring(1), 0);
        due("water for 1 day, ON 2", waterForDays(1).spring(2), 4);
        due("water for none, ON 1: no SPRING comes in time", waterForDays(0).spring(1), 0);
        due("water for none, ON 2: dry once at least", waterForDays(0).spring(2), 4);
        due("nobody is sent", with().spring(20), 0);
        BucketGift x = quiet(LAZY, LAZY, LAZY, LAZY);
        x.water(WELL, 0);
        x.water(BOTTOM, 5);
        for (int f = 0; f < 4; f++) {
            needsAndHas(x, f, 18, 18);
            x.farm(f, SENDS, f);
            x.set(f, DEEDS, 15);
        }
        due("much for four", x.spring(2), 72);
        x.farm(0, NEED, 20);
        x.farm(0, STORE, 20);
        due("one of them can't be helped, but must be watered first", x.spring(2), 72);
        x.farm(3, NEED, 20);
        x.farm(3, STORE, 20);
        due("the last can't be helped", x.spring(2), 54);
    }

    @Sentence(promise = 22, says = "BEYOND.")
    static void springBeyond() {
        range("spring(_)", 1, 20, (x, v) -> x.spring(v));
    }

    @Sentence(promise = 23, says = "The least STORE (0 to 400) with which a FARM isn't dry in n DAYS (1 to 20).")
    static void leastStore() {
        for (int n : new int[] {1, 2, 19, 20}) {
            for (int f = 0; f < 4; f++) {
                BucketGift x = quiet(FARMER);
                x.farm(f, NEED, 20);
                due("20 a day, " + n + " days", x.enough(f, n), 20 * n);
                x.farm(f, SENDS, 0);
                due("20 a day, 4 given", x.enough(f, n), 16 * n);
                x.farm(f, NEED, 4);
                due("4 a day, 4 given", x.enough(f, n), 0);
                x.farm(f, NEED, 0);
                due("none a day", x.enough(f, n), 0);
            }
        }
        BucketGift y = quiet(LAZY);
        needsAndHas(y, 0, 7, 9999);
        y.farm(0, SENDS, 0);
        y.farm(0, THIRST, 9999);
        y.set(0, ASKED, 1);
        due("most on the first day", y.enough(0, 20), 4);
        y.set(0, DEEDS, 240);
        y.set(0, ASKED, 0);
        due("most when it stands lowest", y.enough(0, 20), 4 + 3 + 2 + 1);
        due("the other days less", y.enough(0, 2), 4 + 3);
        due("STORE is as it was", y.farmOf(0, STORE), 9999);
    }

    @Sentence(promise = 23, says = "BEYOND.")
    static void enoughBeyond() {
        range("enough(_, 1)", 0, 3, (x, v) -> x.enough(v, 1));
        range("enough(0, _)", 1, 20, (x, v) -> x.enough(0, v));
    }

    @Sentence(promise = 23, says = "NONE.")
    static void enoughIsNeverNone() {
        BucketGift x = with();
        x.water(WELL, 0);
        x.farm(1, NEED, 20);
        due("NEED is 20 and n is 20 at most, so 400 is enough always", x.enough(1, 20), 400);
        due("no finding", x.status(-1), 0);
    }

    @Sentence(promise = 24, says = "By how much DRY would be more ON n DAYS (1 to 20), if one were SENT by no FARM any more")
    static void worthOfOne() {
        BucketGift x = quiet(FARMER, FARMER);
        needsAndHas(x, 0, 4, 0);
        x.farm(0, SENDS, 0);
        for (int n : new int[] {1, 2, 19, 20}) {
            due("one farm, " + n, x.worth(0, n), n);
            due("sent by none, " + n, x.worth(1, n), 0);
        }
        for (int f = 0; f < 4; f++) {
            needsAndHas(x, f, 1, 0);
            x.farm(f, SENDS, 1);
            x.set(1, DEEDS, 15);
        }
        due("four farms on one day", x.worth(1, 1), 4);
        x.farm(2, SENDS, 0);
        due("one of another's", x.worth(0, 1), 1);
        x.farm(2, THIRST, 9999);
        due("one whose THIRST is held", x.worth(0, 1), 0);
        due("they still send", x.farmOf(2, SENDS) + 10 * x.farmOf(3, SENDS), 10);
    }

    @Sentence(promise = 24, says = "(it may be below 0)")
    static void worthBelow0() {
        BucketGift x = quiet(STRANGER, FARMER);
        x.water(WELL, 12);
        x.water(SPRING, 12);
        x.farm(0, SENDS, 0);
        x.farm(1, SENDS, 1);
        needsAndHas(x, 1, 4, 0);
        due("he takes it all, a day", x.worth(0, 1), -1);
        due("he takes it all, 20 days", x.worth(0, 20), -20);
        due("no finding", x.status(-1), 0);
    }

    @Sentence(promise = 24, says = "BEYOND.")
    static void worthBeyond() {
        refused("worth(0, 1), nobody is there", BucketGift::image, x -> x.worth(0, 1), BEYOND);
        range("worth(_, 1)", 0, 5, (x, v) -> x.worth(v, 1));
        range("worth(1, _)", 1, 20, (x, v) -> x.worth(1, v));
    }

    @Sentence(promise = 25, says = "How many sets of DEEDS (of all 256) one could have, so that just v is GIVEN to it now.")
    static void didByWhatCame() {
        for (int kind = 0; kind < 6; kind++) {
            BucketGift x = with(kind);
            int sum = 0;
            for (int v = 0; v <= 20; v++) {
                sum += x.did(0, v);
            }
            due("all sets of kind " + kind, sum, 256);
        }
        BucketGift x = with(FARMER, SHAM, STRANGER);
        due("none: four bad ones alone", x.did(0, 0), 1);
        due("12: four good ones alone", x.did(0, 12), 1);
        due("13", x.did(0, 13), 0);
        x.water(BOTTOM, 5);
        due("4, with BOTTOM 5", x.did(0, 4), 0);
        due("5, with BOTTOM 5", x.did(0, 5), 1);
        x.water(WELL, 5);
        due("5, with 5 in the well", x.did(0, 5), 256);
        due("4, with 5 in the well", x.did(0, 4), 0);
        x.water(WELL, 0);
        due("0, of an empty well", x.did(0, 0), 256);
        x.water(WELL, 100);
        x.set(1, STEP, 2);
        due("a sham by another's step, any", x.did(1, 16), 256);
        x.set(0, ASKED, 9);
        due("0, asked nine times", x.did(0, 0), 256);
        x.set(0, ASKED, 4);
        due("1, asked four times", x.did(0, 1), 1 + 4);
        onlyAsks("did(3, 0)", y -> y.did(3, 0));
    }

    @Sentence(promise = 25, says = "BEYOND: person; v below 0.")
    static void didBeyond() {
        refused("did(0, 0), nobody is there", BucketGift::image, x -> x.did(0, 0), BEYOND);
        range("did(_, 1)", 0, 5, (x, v) -> x.did(v, 1));
        refused("did(0, -1)", x -> x.did(0, -1), BEYOND);
        refused("did(0, MIN)", x -> x.did(0, MIN), BEYOND);
        due("no v is too much", with(FARMER).did(0, MAX), 0);
        due("10000 neither", with(FARMER).did(0, 10000), 0);
    }
}
