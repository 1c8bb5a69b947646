/** Promises 29 to 34. */
final class SheetSentences extends SentenceTests {
    private static final int[] BITS = {8, 16, 64};

    private static BucketGift withSheet(int s, int bits, long... numbers) {
        BucketGift x = with();
        write(x, s, bits, numbers);
        return x;
    }

    private static void write(BucketGift x, int s, int bits, long... numbers) {
        x.sheet(s, bits, numbers.length);
        for (int i = 0; i < numbers.length; i++) {
            x.write(s, i, numbers[i]);
        }
    }

    private static void holds(String when, BucketGift x, int s, long... want) {
        for (int i = 0; i < want.length; i++) {
            long was = x.write(s, i, 0);
            due(when + ", number " + i, was, want[i]);
            x.write(s, i, was);
        }
        due(when + ", no more", x.write(s, want.length, 0), BEYOND);
    }

    @Sentence(promise = 29, says = "A sheet has n numbers, all 0, of 8, 16 or 64 bits")
    static void sheetOfNumbers() {
        for (int bits : BITS) {
            for (int n : new int[] {0, 1, 39, 40}) {
                BucketGift x = with();
                write(x, 2, 64, new long[40]);
                for (int i = 0; i < 40; i++) {
                    x.write(2, i, -1);
                }
                due("sheet(2, " + bits + ", " + n + ")", x.sheet(2, bits, n), n);
                holds("all 0", x, 2, new long[n]);
            }
        }
        BucketGift y = withSheet(0, 8, 5, 6);
        y.sheet(1, 8, 2);
        holds("another sheet is as it was", y, 0, 5, 6);
    }

    @Sentence(promise = 29, says = "bits 0: it is MISSING: n (0 if it is MISSING).")
    static void sheetMissing() {
        for (int n : new int[] {0, 1, 40}) {
            BucketGift x = withSheet(1, 16, 5, 6);
            due("sheet(1, 0, " + n + ")", x.sheet(1, 0, n), 0);
            due("it is MISSING", x.write(1, 0, 0), MISSING);
            due("it is made again", x.sheet(1, 16, 2), 2);
            holds("all 0", x, 1, 0, 0);
        }
        due("MISSING before", with().sheet(3, 0, 7), 0);
    }

    @Sentence(promise = 29, says = "BEYOND: no such sheet, other bits.")
    static void sheetBeyond() {
        range("sheet(_, 8, 2)", 0, 3, (x, v) -> x.sheet(v, 8, 2));
        range("sheet(_, 0, 2)", 0, 3, (x, v) -> x.sheet(v, 0, 2));
        for (int bits : new int[] {-1, 1, 4, 7, 9, 15, 17, 24, 32, 63, 65, 128, -8, -16, -64, MIN, MAX, 264}) {
            refused("sheet(0, " + bits + ", 2)", x -> x.sheet(0, bits, 2), BEYOND);
        }
    }

    @Sentence(promise = 29, says = "SIZE: n is below 0 (also with bits 0).")
    static void sheetSize() {
        for (int bits : new int[] {0, 8, 16, 64}) {
            refused("sheet(0, " + bits + ", -1)", x -> x.sheet(0, bits, -1), SIZE);
            refused("sheet(0, " + bits + ", MIN)", x -> x.sheet(0, bits, MIN), SIZE);
            refused("sheet(3, " + bits + ", -1), which is MISSING", x -> x.sheet(3, bits, -1), SIZE);
        }
    }

    @Sentence(promise = 29, says = "BEYOND: n is above 40 (also with bits 0).")
    static void sheetAbove40() {
        for (int bits : new int[] {0, 8, 16, 64}) {
            refused("sheet(0, " + bits + ", 41)", x -> x.sheet(0, bits, 41), BEYOND);
            refused("sheet(0, " + bits + ", MAX)", x -> x.sheet(0, bits, MAX), BEYOND);
            refused("sheet(3, " + bits + ", 41), which is MISSING", x -> x.sheet(3, bits, 41), BEYOND);
        }
    }

    @Sentence(promise = 30, says = "Number i of a sheet becomes v (its lowest bits): what it was.")
    static void writesTheLowestBits() {
        long[][] rows = {
            {8, 127, 127}, {8, 128, -128}, {8, 255, -1}, {8, 256, 0}, {8, 257, 1}, {8, -1, -1}, {8, -128, -128},
            {8, -129, 127}, {8, -256, 0}, {8, 65536 + 5, 5}, {8, Long.MAX_VALUE, -1}, {8, Long.MIN_VALUE, 0},
            {16, 255, 255}, {16, 32767, 32767}, {16, 32768, -32768}, {16, 65535, -1}, {16, 65536, 0},
            {16, -32768, -32768}, {16, -32769, 32767}, {16, 1L << 32 | 9, 9}, {16, Long.MIN_VALUE, 0},
            {64, 1L << 32, 1L << 32}, {64, Long.MAX_VALUE, Long.MAX_VALUE}, {64, Long.MIN_VALUE, Long.MIN_VALUE},
            {64, -1, -1}, {64, BEYOND, BEYOND}, {64, SIZE, SIZE}};
        for (long[] row : rows) {
            for (int i : new int[] {0, 39}) {
                BucketGift x = with();
                x.sheet(1, (int) row[0], 40);
                due("before", x.write(1, i, row[1]), 0);
                due(row[1] + " in " + row[0] + " bits", x.write(1, i, 7), row[2]);
                due("then 7", x.write(1, i, 0), 7);
                due("beside it", x.write(1, 20, 0), 0);
                due("no finding, whatever it was", x.status(-1), 0);
            }
        }
    }

    @Sentence(promise = 30, says = "BEYOND: no such sheet.")
    static void writeNoSheet() {
        for (int s : new int[] {-1, 4, MIN, MAX}) {
            refused("write(" + s + ", 0, 7)", x -> x.write(s, 0, 7), BEYOND);
        }
    }

    @Sentence(promise = 30, says = "MISSING.")
    static void writeMissing() {
        for (int i : new int[] {0, -1, 40, MIN, MAX}) {
            refused("write(3, " + i + ", 7)", x -> x.write(3, i, 7), MISSING);
        }
    }

    @Sentence(promise = 30, says = "BEYOND: no such number.")
    static void writeNoNumber() {
        range("write(0, _, 7)", 0, 2, (x, v) -> x.write(0, v, 7));
        range("write(1, _, 7)", 0, 1, (x, v) -> x.write(1, v, 7));
        for (int bits : BITS) {
            due("of none, " + bits, withSheet(0, bits).write(0, 0, 7), BEYOND);
            BucketGift x = withSheet(0, bits, new long[40]);
            due("the last of 40", x.write(0, 39, 7), 0);
            due("the 41st", x.write(0, 40, 7), BEYOND);
            x.sheet(0, bits, 3);
            due("of a shorter one", x.write(0, 3, 7), BEYOND);
        }
    }

    private static BucketGift twoSheets(int bits) {
        BucketGift x = withSheet(0, bits, 1, 2, 3, 4, 5);
        write(x, 3, bits, 11, 12, 13);
        return x;
    }

    @Sentence(promise = 31, says = "n numbers of a sheet from one on come to another one from one on")
    static void copies() {
        for (int bits : BITS) {
            BucketGift x = twoSheets(bits);
            due("all of the shorter", x.copy(3, 0, 0, 2, 3), 3);
            holds("all of the shorter", x, 0, 1, 2, 11, 12, 13);
            holds("which is as it was", x, 3, 11, 12, 13);
            x = twoSheets(bits);
            due("the last to the first", x.copy(0, 4, 3, 0, 1), 1);
            holds("the last to the first", x, 3, 5, 12, 13);
            due("none", x.copy(0, 0, 3, 0, 0), 0);
            due("none, at both ends", x.copy(0, 5, 3, 3, 0), 0);
            holds("after none", x, 3, 5, 12, 13);
            BucketGift y = with();
            y.sheet(0, bits, 40);
            y.write(0, 39, -3);
            y.sheet(1, bits, 40);
            due("forty", y.copy(0, 0, 1, 0, 40), 40);
            due("the last of them", y.write(1, 39, 0), -3);
            BucketGift z = withSheet(0, bits);
            z.sheet(1, bits, 0);
            due("none of none", z.copy(0, 0, 1, 0, 0), 0);
        }
    }

    @Sentence(promise = 31, says = "(as they all were)")
    static void copiesWithinOne() {
        for (int bits : BITS) {
            BucketGift x = twoSheets(bits);
            due("up by one", x.copy(0, 0, 0, 1, 4), 4);
            holds("up by one", x, 0, 1, 1, 2, 3, 4);
            x = twoSheets(bits);
            due("down by one", x.copy(0, 1, 0, 0, 4), 4);
            holds("down by one", x, 0, 2, 3, 4, 5, 5);
            x = twoSheets(bits);
            due("up by two", x.copy(0, 0, 0, 2, 3), 3);
            holds("up by two", x, 0, 1, 2, 1, 2, 3);
            x = twoSheets(bits);
            due("onto itself", x.copy(0, 0, 0, 0, 5), 5);
            holds("onto itself", x, 0, 1, 2, 3, 4, 5);
        }
    }

    @Sentence(promise = 31, says = "BEYOND: no such sheet (either).")
    static void copyNoSheet() {
        for (int s : new int[] {-1, 4, MIN, MAX}) {
            refused("copy(" + s + ", 0, 0, 0, 1)", x -> x.copy(s, 0, 0, 0, 1), BEYOND);
            refused("copy(0, 0, " + s + ", 0, 1)", x -> x.copy(0, 0, s, 0, 1), BEYOND);
            refused("copy(3, 0, " + s + ", 0, 1)", x -> x.copy(3, 0, s, 0, 1), BEYOND);
            refused("copy(" + s + ", 0, 3, 0, 1)", x -> x.copy(s, 0, 3, 0, 1), BEYOND);
        }
    }

    @Sentence(promise = 31, says = "MISSING: one is.")
    static void copyMissing() {
        refused("the first", x -> x.copy(3, 0, 0, 0, 1), MISSING);
        refused("the other", x -> x.copy(0, 0, 3, 0, 1), MISSING);
        refused("both", x -> x.copy(3, 0, 3, 0, 0), MISSING);
    }

    @Sentence(promise = 31, says = "KIND: they are not of as many bits.")
    static void copyKind() {
        for (int s = 0; s < 3; s++) {
            for (int t = 0; t < 3; t++) {
                int one = s;
                int other = t;
                if (s != t) {
                    refused("copy(" + s + ", 0, " + t + ", 0, 1)", x -> x.copy(one, 0, other, 0, 1), KIND);
                    refused("none of them", x -> x.copy(one, 0, other, 0, 0), KIND);
                    refused("too many of them", x -> x.copy(one, 0, other, 0, 41), KIND);
                }
            }
        }
    }

    private static void two(BucketGift x) {
        Twins.busy(x);
        x.sheet(3, 8, 2);
    }

    @Sentence(promise = 31, says = "BEYOND: one has not so many, or from, to or n is below 0.")
    static void copyBeyond() {
        int[][] rows = {{0, 0, 4}, {1, 0, 3}, {3, 0, 1}, {4, 0, 0}, {0, 0, 3}, {0, 1, 2}, {0, 2, 1}, {0, 3, 0},
            {-1, 0, 1}, {0, -1, 1}, {0, 0, -1}, {1, 1, -1}, {-1, 0, 0}, {0, -1, 0}, {3, 2, -1},
            {MAX, 0, 1}, {0, MAX, 1}, {0, 0, MAX}, {MAX, 0, MAX}, {0, MAX, MAX}, {1, 1, MAX}, {MIN, 0, 1},
            {0, MIN, 1}, {0, 0, MIN}, {MAX, MAX, MIN}, {MIN, MIN, MIN}, {MIN, MIN, MAX}, {MAX, MAX, 1}};
        for (int[] r : rows) {
            String call = "copy(0, " + r[0] + ", 3, " + r[1] + ", " + r[2] + ")";
            refused(call, SheetSentences::two, x -> x.copy(0, r[0], 3, r[1], r[2]), BEYOND);
        }
        due("just so many", Twins.made(SheetSentences::two).copy(0, 1, 3, 0, 2), 2);
        due("none at the ends", Twins.made(SheetSentences::two).copy(0, 3, 3, 2, 0), 0);
        refused("within one", x -> x.copy(0, 1, 0, 0, 3), BEYOND);
    }

    @Sentence(promise = 32, says = "Numbers of a sheet become DEEDS of PEOPLE 0, 1, ..")
    static void laysDeeds() {
        for (int bits : BITS) {
            BucketGift x = with(0, 1, 2, 3);
            for (int p = 0; p < 4; p++) {
                x.set(p, DEEDS, 9);
            }
            write(x, 2, bits, 0, 127, 5);
            due("three of four, " + bits, x.lays(2), 3);
            int[] want = {0, 127, 5, 9};
            for (int p = 0; p < 4; p++) {
                due("DEEDS of " + p, x.of(p, DEEDS), want[p]);
            }
            holds("the sheet is as it was", x, 2, 0, 127, 5);
            x.sheet(2, bits, 0);
            due("none", x.lays(2), 0);
            due("DEEDS are as they were", x.of(1, DEEDS), 127);
        }
    }

    @Sentence(promise = 32, says = "(those that aren't 0 to 255, or stand for none, are left out): how many came")
    static void laysLeavesOut() {
        long[] odd = {-1, 256, 255, 0, Long.MIN_VALUE, 1L << 32, 1L << 32 | 1, -255};
        BucketGift x = with(0, 0, 0, 0, 0, 0, 0, 0);
        for (int p = 0; p < 8; p++) {
            x.set(p, DEEDS, 6);
        }
        write(x, 0, 64, odd);
        due("two of eight", x.lays(0), 2);
        int[] want = {6, 6, 255, 0, 6, 6, 6, 6};
        for (int p = 0; p < 8; p++) {
            due("DEEDS of " + p, x.of(p, DEEDS), want[p]);
        }
        write(x, 0, 16, 255, 256, -1, 32767);
        due("of 16 bits", x.lays(0), 1);
        write(x, 0, 8, 127, -128, 128, 255, 256);
        due("of 8 bits, which are from -128 to 127", x.lays(0), 2);
        due("the lowest bits of 256", x.of(4, DEEDS), 0);
        due("-128 was left out", x.of(1, DEEDS), 6);
        x.sheet(0, 64, 40);
        due("forty for eight", x.lays(0), 8);
        BucketGift nobody = withSheet(0, 8, 1, 2);
        due("for nobody", nobody.lays(0), 0);
        nobody.person(FARMER);
        due("nor for one who comes later", nobody.of(0, DEEDS), 0);
        due("by then there is one", nobody.lays(0), 1);
    }

    @Sentence(promise = 32, says = "BEYOND: no such sheet.")
    static void laysBeyond() {
        for (int s : new int[] {-1, 4, MIN, MAX}) {
            refused("lays(" + s + ")", x -> x.lays(s), BEYOND);
        }
    }

    @Sentence(promise = 32, says = "MISSING.")
    static void laysMissing() {
        refused("lays(3)", x -> x.lays(3), MISSING);
        for (int s = 0; s < 4; s++) {
            due("at first: " + s, with(FARMER).lays(s), MISSING);
        }
    }

    @Sentence(promise = 33, says = "STORE of a FARM ON 0, 1, 2, .. DAYS comes to a sheet, as many as it has numbers: how many.")
    static void booksStores() {
        for (int bits : BITS) {
            BucketGift x = quiet(FARMER);
            needsAndHas(x, 2, 5, 40);
            x.farm(2, SENDS, 0);
            x.sheet(1, bits, 40);
            due("40 of them", x.book(1, 2), 40);
            for (int i = 0; i < 40; i++) {
                due("ON " + i + ", " + bits, x.write(1, i, 0), 40 - i);
            }
            due("nothing went", x.now(0), 0);
            due("STORE is as it was", x.farmOf(2, STORE), 40);
            x.sheet(1, bits, 1);
            due("one of them", x.book(1, 2), 1);
            holds("ON 0 alone", x, 1, 40);
            x.sheet(1, bits, 0);
            due("none", x.book(1, 2), 0);
        }
        BucketGift y = with();
        y.farm(0, STORE, 9999);
        y.sheet(0, 8, 2);
        y.book(0, 0);
        holds("the lowest 8 bits of 9999 and 9996", y, 0, (byte) 9999, (byte) 9996);
        y.sheet(0, 16, 1);
        y.book(0, 0);
        holds("9999 in 16 bits", y, 0, 9999);
    }

    @Sentence(promise = 33, says = "BEYOND: no such sheet.")
    static void bookNoSheet() {
        for (int s : new int[] {-1, 4, MIN, MAX}) {
            refused("book(" + s + ", 0)", x -> x.book(s, 0), BEYOND);
        }
    }

    @Sentence(promise = 33, says = "MISSING.")
    static void bookMissing() {
        refused("book(3, 0)", x -> x.book(3, 0), MISSING);
        refused("book(3, -1)", x -> x.book(3, -1), MISSING);
    }

    @Sentence(promise = 33, says = "BEYOND: farm.")
    static void bookNoFarm() {
        range("book(0, _)", 0, 3, (x, v) -> x.book(0, v));
        due("of none, too", withSheet(0, 8).book(0, 4), BEYOND);
    }

    @Sentence(promise = 34, says = "numbers of a sheet are STORES of a FARM ON 0, 1, 2, .. DAYS: "
        + "how many of PEOPLE, were each SENT by it, make it just so.")
    static void readsStores() {
        BucketGift x = quiet(FARMER, LAZY, FARMER, STRANGER);
        write(x, 0, 16, 0, 4, 8, 12);
        due("two farmers", x.read(0, 1), 2);
        x.write(0, 3, 13);
        due("the last number is another", x.read(0, 1), 0);
        write(x, 0, 16, 0, 7);
        due("one lazy one", x.read(0, 1), 1);
        write(x, 0, 16, 0);
        due("anybody", x.read(0, 1), 4);
        write(x, 0, 16, 1);
        due("another STORE now", x.read(0, 1), 0);
        write(x, 0, 16, 0, 0);
        due("as nobody would", x.read(0, 1), 0);
        x.farm(1, SENDS, 1);
        write(x, 0, 16, 0, 4);
        due("though it sends another", x.read(0, 1), 2);
        due("it sends whom it sent", x.farmOf(1, SENDS), 1);
        x.farm(0, SENDS, 0);
        due("of whom one was asked by another farm before", x.read(0, 1), 1);
        for (int bits : BITS) {
            x.sheet(0, bits, 0);
            due("no numbers, " + bits, x.read(0, 1), 4);
        }
        due("no numbers, nobody", withSheet(0, 8).read(0, 0), 0);
        BucketGift y = quiet(FARMER);
        y.sheet(0, 64, 40);
        y.farm(3, SENDS, 0);
        y.book(0, 3);
        due("forty", y.read(0, 3), 1);
        y.write(0, 39, 1);
        due("forty, the last another", y.read(0, 3), 0);
        y.book(0, 3);
        y.write(0, 1, 4 + (1L << 32));
        due("a number far above", y.read(0, 3), 0);
        BucketGift z = quiet(FARMER);
        z.farm(0, STORE, 256);
        z.sheet(0, 8, 1);
        due("0 in 8 bits isn't 256", z.read(0, 0), 0);
        z.farm(0, STORE, 255);
        z.write(0, 0, 255);
        due("-1 in 8 bits isn't 255", z.read(0, 0), 0);
    }

    @Sentence(promise = 34, says = "BEYOND: no such sheet.")
    static void readNoSheet() {
        for (int s : new int[] {-1, 4, MIN, MAX}) {
            refused("read(" + s + ", 0)", x -> x.read(s, 0), BEYOND);
        }
    }

    @Sentence(promise = 34, says = "MISSING.")
    static void readMissing() {
        refused("read(3, 0)", x -> x.read(3, 0), MISSING);
        refused("read(3, -1)", x -> x.read(3, -1), MISSING);
    }

    @Sentence(promise = 34, says = "BEYOND: farm.")
    static void readNoFarm() {
        range("read(0, _)", 0, 3, (x, v) -> x.read(0, v));
        due("of none, too", withSheet(0, 8).read(0, 4), BEYOND);
    }
}
