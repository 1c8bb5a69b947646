import java.util.List;

/** Promises 35 to 39. */
final class ImageSentences extends SentenceTests {
    /** Changes each single thing that section 1 tells. */
    private static void changeAll(BucketGift x) {
        for (int f = 0; f < 4; f++) {
            x.farm(f, NEED, 11 + f);
            x.farm(f, STORE, 21 + f);
            x.farm(f, THIRST, 31 + f);
            x.farm(f, SENDS, 3 - f);
        }
        x.water(WELL, 41);
        x.water(SPRING, 42);
        x.water(BOTTOM, 5);
        for (int p = 0; p < 6; p++) {
            x.turn(p, (x.of(p, 0) + 1) % 6);
            x.set(p, DEEDS, 51 + p);
            x.set(p, STEP, (p + 1) % 6);
        }
        x.days(1);
        for (int p = 0; p < 6; p++) {
            x.set(p, ASKED, 4 + p % 3);
        }
        x.person(LAZY);
    }

    private static void keptAndChanged(BucketGift x) {
        Twins.busy(x);
        x.image();
        changeAll(x);
    }

    private static void keptBefore(BucketGift x) {
        Twins.busy(x);
        x.image();
    }

    @Sentence(promise = 35, says = "All that section 1 tells (THE TAPE not) is kept: 1.")
    static void keepsAll() {
        BucketGift x = Twins.made(ImageSentences::keptAndChanged);
        due("undo()", x.undo(), 6);
        due("all is as it was", Twins.look(x).equals(Twins.look(Twins.made(ImageSentences::keptBefore))));
        BucketGift y = with();
        due("image() of a new object", y.image(), 1);
        due("again", y.image(), 1);
    }

    @Sentence(promise = 35, says = "(THE TAPE not)")
    static void keepsNoTape() {
        BucketGift x = with();
        Checks.feed(x, "well");
        x.image();
        Checks.feed(x, " 7");
        x.undo();
        due("six bytes still", x.count(1), 6);
        due("well 7", x.parish(), 1);
        x.undo();
        due("empty still", x.count(1), 0);
        due("but THE WELL is as it was", x.now(1), 100);
    }

    @Sentence(promise = 35, says = "All that section 1 tells")
    static void keepsNoSheets() {
        BucketGift x = with(FARMER);
        x.sheet(0, 8, 1);
        x.image();
        x.write(0, 0, 7);
        x.sheet(1, 16, 3);
        x.undo();
        due("a number written since", x.write(0, 0, 0), 7);
        due("a sheet made since", x.write(1, 2, 0), 0);
    }

    @Sentence(promise = 36, says = "It becomes what was kept latest (which stays): how many PEOPLE.")
    static void becomesTheLatest() {
        BucketGift x = with();
        x.image();
        x.person(FARMER);
        x.water(WELL, 5);
        x.image();
        x.person(FARMER);
        x.water(WELL, 6);
        for (int times = 0; times < 3; times++) {
            due("undo() " + times, x.undo(), 1);
            due("the latest", x.now(1), 5);
            x.water(WELL, 7);
            x.set(0, DEEDS, 8);
            x.person(FARMER);
        }
        BucketGift nobody = with();
        nobody.image();
        nobody.person(FARMER);
        due("nobody", nobody.undo(), 0);
        due("nobody is there", nobody.of(0, 0), BEYOND);
        BucketGift eight = with(0, 0, 0, 0, 0, 0, 0, 0);
        eight.image();
        due("eight", eight.undo(), 8);
        BucketGift day = Twins.made(Twins::lastDay);
        due("one", day.undo(), 1);
        due("DAY too", day.now(0), 0);
        due("days go again", day.days(1) > -1000000000);
    }

    @Sentence(promise = 36, says = "NONE: nothing is kept.")
    static void undoNone() {
        refused("of a new object", x -> x.now(0), BucketGift::undo, NONE);
        refused("after tear()", Twins::torn, BucketGift::undo, NONE);
    }

    @Sentence(promise = 37, says = "Nothing is kept: 1 if something was, else 0.")
    static void tears() {
        BucketGift x = with(FARMER);
        due("nothing was", x.tear(), 0);
        x.image();
        x.image();
        x.water(WELL, 3);
        due("something was", x.tear(), 1);
        due("nothing is", x.tear(), 0);
        due("nothing to become", x.undo(), NONE);
        due("what there is stays", x.now(1), 3);
        x.image();
        due("kept again", x.undo(), 1);
        due("it stayed", x.tear(), 1);
    }

    @Sentence(promise = 38, says = "0 PEOPLE, 1 bytes of THE TAPE, 2 DEEDS of all together, counted each, 3 ASKED of all together.")
    static void counts() {
        for (int what = 0; what < 4; what++) {
            due("at first " + what, with().count(what), 0);
        }
        BucketGift x = with(0, 1, 2, 3, 4, 5, 0, 1);
        for (int p = 0; p < 8; p++) {
            x.set(p, DEEDS, 255);
            x.set(p, ASKED, 9);
        }
        for (int i = 0; i < 30; i++) {
            x.feed(0, 4);
        }
        int[] most = {8, 120, 64, 72};
        for (int what = 0; what < 4; what++) {
            due("the most of " + what, x.count(what), most[what]);
        }
        x.set(3, DEEDS, 129);
        x.set(7, DEEDS, 0);
        x.set(5, ASKED, 2);
        due("DEEDS, each", x.count(2), 48 + 2);
        due("ASKED", x.count(3), 63 + 2);
        BucketGift y = with();
        y.image();
        y.person(FARMER);
        y.set(0, DEEDS, 3);
        y.set(0, ASKED, 3);
        y.undo();
        due("DEEDS of one who is gone", y.count(2), 0);
        due("ASKED of one who is gone", y.count(3), 0);
        for (int what = 0; what < 4; what++) {
            int asked = what;
            onlyAsks("count(" + what + ")", z -> z.count(asked));
        }
    }

    @Sentence(promise = 38, says = "BEYOND: another what.")
    static void countBeyond() {
        range("count(_)", 0, 3, (x, v) -> x.count(v));
    }

    private static final Twins.Call[] ONE_OF_EACH = {
        x -> x.farm(4, 0, 0), x -> x.person(0), x -> x.as(0, LAZY), x -> x.dry(3), x -> x.days(1), x -> x.lays(3),
        x -> x.sheet(0, 8, -1)};

    /** Eight people, the last DAY, a farm without need: each finding can be had. */
    private static BucketGift ripe() {
        BucketGift x = with(0, 0, 0, 0, 0, 0, 0, 0);
        x.farm(3, NEED, 0);
        for (int i = 0; i < 166; i++) {
            x.days(60);
        }
        x.days(39);
        return x;
    }

    @Sentence(promise = 39, says = "How many acts answered a finding ever (undo() takes none back): which -1: all, 0 to 6: BEYOND to SIZE.")
    static void countsFindings() {
        BucketGift x = ripe();
        for (int which = -1; which <= 6; which++) {
            due("none yet: " + which, x.status(which), 0);
        }
        int all = 0;
        for (int which = 0; which <= 6; which++) {
            for (int times = 0; times <= which; times++) {
                due("finding " + which, ONE_OF_EACH[which].of(x), BEYOND - which);
                all++;
                due("status(" + which + ")", x.status(which), times + 1);
                due("status(-1)", x.status(-1), all);
            }
        }
        for (int which = 0; which <= 6; which++) {
            due("status(" + which + ") at last", x.status(which), which + 1);
        }
    }

    @Sentence(promise = 39, says = "(undo() takes none back)")
    static void undoTakesNoneBack() {
        BucketGift x = with(FARMER);
        x.image();
        x.now(-1);
        x.as(0, SHAM);
        x.undo();
        due("BEYOND", x.status(0), 1);
        due("KIND", x.status(2), 1);
        due("all", x.status(-1), 2);
        x.tear();
        x.undo();
        due("NONE of undo()", x.status(3), 1);
        due("all", x.status(-1), 3);
    }

    @Sentence(promise = 39, says = "How many acts answered a finding")
    static void otherAnswersAreNone() {
        BucketGift x = with(FARMER);
        x.sheet(0, 64, 1);
        x.write(0, 0, BEYOND);
        due("a number that looks like one", x.write(0, 0, 0), BEYOND);
        Checks.feed(x, "oh");
        due("a FAULT", x.parish(), -1);
        due("nobody sent", x.farmOf(0, SENDS), -1);
        due("no finding by these", x.status(-1), 0);
        x.write(3, 0, 0);
        due("MISSING in a long", x.status(5), 1);
    }

    @Sentence(promise = 39, says = "BEYOND (counted from then on): another one.")
    static void statusBeyond() {
        range("status(_)", -1, 6, (x, v) -> x.status(v));
        BucketGift x = with();
        due("status(-2)", x.status(-2), BEYOND);
        due("status(0)", x.status(0), 1);
        due("status(7)", x.status(7), BEYOND);
        due("status(0)", x.status(0), 2);
        due("status(-1)", x.status(-1), 2);
        List<Long> before = Twins.status(x);
        due("asking counts for nothing", Twins.status(x).equals(before));
    }
}
