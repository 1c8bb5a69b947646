/** Promises 1 to 4. */
final class ParishSentences extends SentenceTests {
    @Sentence(promise = 1, says = "No PEOPLE; THE TAPE is empty, no image is kept.")
    static void aNewObject() {
        due("PEOPLE", with().count(0), 0);
        due("THE TAPE", with().count(1), 0);
        due("an empty text", with().parish(), -1);
        due("wipe()", with().wipe(), 0);
        due("tear()", with().tear(), 0);
        due("undo()", with().undo(), NONE);
        due("favourite()", with().favourite(), NONE);
        due("status(-1)", with().status(-1), 0);
    }

    @Sentence(promise = 2, says = "NEED (what 0), STORE (1), THIRST (2)")
    static void whatsOfFarm() {
        for (int f = 0; f < 4; f++) {
            BucketGift x = with();
            x.farm(f, 0, 6);
            x.farm(f, 1, 7);
            x.farm(f, 2, 8);
            due("NEED of all", x.now(6), 12 - 3 + 6);
            due("STORE of all", x.now(4), 20 - 5 + 7);
            due("THIRST of all", x.now(5), 8);
            due("NEED of " + f, x.farmOf(f, 0), 6);
        }
        range("farm(0, _, 0)", 0, 3, (x, v) -> x.farm(0, v, 0));
    }

    @Sentence(promise = 2, says = "whom it SENDS (3; -1, or one that is there)")
    static void sendsOneThatIsThere() {
        BucketGift x = with();
        due("nobody is there", x.farm(0, SENDS, 0), BEYOND);
        due("nobody is sent", x.farm(0, SENDS, -1), -1);
        x.person(0);
        due("one is there", x.farm(0, SENDS, 0), -1);
        due("but no other", x.farm(0, SENDS, 1), BEYOND);
        range("farm(3, 3, _) of eight", Twins::full, -1, 7, (y, v) -> y.farm(3, SENDS, v));
        range("farm(3, 3, _) of six", -1, 5, (y, v) -> y.farm(3, SENDS, v));
    }

    @Sentence(promise = 2, says = "becomes v: what it was")
    static void farmTellsWhatItWas() {
        int[] first = {3, 5, 0, -1};
        for (int what = 0; what < 4; what++) {
            BucketGift x = with(FARMER, FARMER);
            due("at first", x.farm(2, what, 1), first[what]);
            due("then", x.farm(2, what, 0), 1);
            due("the same", x.farm(2, what, 0), 0);
            due("another farm's is as it was", x.farmOf(1, what), first[what]);
        }
    }

    @Sentence(promise = 2, says = "BEYOND.")
    static void farmBeyond() {
        range("farm(_, 0, 1)", 0, 3, (x, v) -> x.farm(v, NEED, 1));
        range("farm(_, 3, -1)", 0, 3, (x, v) -> x.farm(v, SENDS, -1));
        range("farm(0, 0, _)", 0, 20, (x, v) -> x.farm(0, NEED, v));
        range("farm(0, 1, _)", 0, 9999, (x, v) -> x.farm(0, STORE, v));
        range("farm(0, 2, _)", 0, 9999, (x, v) -> x.farm(0, THIRST, v));
        refused("farm(4, 4, -9)", x -> x.farm(4, 4, -9), BEYOND);
    }

    @Sentence(promise = 3, says = "what 0 NEED, 1 STORE, 2 THIRST, 3 whom it SENDS (-1)")
    static void whatsOfFarmOf() {
        BucketGift x = with(FARMER, FARMER);
        due("nobody", x.farmOf(0, 3), -1);
        x.farm(0, 0, 20);
        x.farm(0, 1, 9999);
        x.farm(0, 2, 9998);
        x.farm(0, 3, 1);
        int[] want = {20, 9999, 9998, 1};
        for (int what = 0; what < 4; what++) {
            due("farmOf(0, " + what + ")", x.farmOf(0, what), want[what]);
        }
        onlyAsks("farmOf(1, 3)", y -> y.farmOf(1, 3));
    }

    @Sentence(promise = 3, says = "BEYOND.")
    static void farmOfBeyond() {
        range("farmOf(_, 1)", 0, 3, (x, v) -> x.farmOf(v, 1));
        range("farmOf(1, _)", 0, 3, (x, v) -> x.farmOf(1, v));
    }

    @Sentence(promise = 4, says = "THE WELL (what 0), SPRING (1), BOTTOM (2) becomes v: what it was.")
    static void waterTellsWhatItWas() {
        int[] first = {100, 10, 0};
        for (int what = 0; what < 3; what++) {
            BucketGift x = with();
            due("at first", x.water(what, 5), first[what]);
            due("then", x.water(what, 0), 5);
            due("the same", x.water(what, 0), 0);
            for (int other = 0; other < 3; other++) {
                due("now(" + (other + 1) + ")", x.now(other + 1), other == what ? 0 : first[other]);
            }
        }
    }

    @Sentence(promise = 4, says = "BEYOND.")
    static void waterBeyond() {
        range("water(_, 1)", 0, 2, (x, v) -> x.water(v, 1));
        range("water(0, _)", 0, 9999, (x, v) -> x.water(WELL, v));
        range("water(1, _)", 0, 99, (x, v) -> x.water(SPRING, v));
        range("water(2, _)", 0, 5, (x, v) -> x.water(BOTTOM, v));
    }
}
