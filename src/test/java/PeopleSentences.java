/** Promises 5 to 10. */
final class PeopleSentences extends SentenceTests {
    @Sentence(promise = 5, says = "One more: the number.")
    static void personsNumbers() {
        BucketGift x = with();
        for (int p = 0; p < 8; p++) {
            due("person " + p, x.person(5 - p % 6), p);
            due("how many", x.count(0), p + 1);
            int[] want = {5 - p % 6, 0, p, 0};
            for (int what = 0; what < 4; what++) {
                due("of(" + p + ", " + what + ")", x.of(p, what), want[what]);
            }
        }
    }

    @Sentence(promise = 5, says = "One more")
    static void personWhereAnotherWas() {
        BucketGift x = with();
        x.image();
        x.person(SHAM);
        x.set(0, DEEDS, 255);
        x.set(0, ASKED, 9);
        x.undo();
        due("the same number", x.person(FARMER), 0);
        due("no deeds", x.of(0, DEEDS), 0);
        due("its own step", x.of(0, STEP), 0);
        due("not asked", x.of(0, ASKED), 0);
        due("its kind", x.of(0, 0), FARMER);
    }

    @Sentence(promise = 5, says = "BEYOND: kind.")
    static void personBeyond() {
        range("person(_)", 0, 5, (x, v) -> x.person(v));
    }

    @Sentence(promise = 5, says = "FULL.")
    static void personFull() {
        BucketGift x = with(0, 0, 0, 0, 0, 0, 0);
        due("the eighth", x.person(PRIEST), 7);
        for (int kind = 0; kind < 6; kind++) {
            int another = kind;
            refused("a ninth of kind " + kind, Twins::full, y -> y.person(another), FULL);
        }
    }

    @Sentence(promise = 6, says = "what 0 KIND, 1 DEEDS, 2 STEP, 3 ASKED, 4 what it DESERVES, 5 what it GIVES to it now")
    static void whatsOfOne() {
        BucketGift x = with(STRANGER, SHAM);
        x.set(1, DEEDS, 17);
        x.set(1, STEP, 0);
        x.set(1, ASKED, 1);
        int[] want = {SHAM, 17, 0, 1, 4 + 2 - 1 + 1, 5};
        for (int what = 0; what < 6; what++) {
            due("of(1, " + what + ")", x.of(1, what), want[what]);
        }
        for (int what = 0; what < 6; what++) {
            int asked = what;
            onlyAsks("of(4, " + what + ")", y -> y.of(4, asked));
        }
    }

    @Sentence(promise = 6, says = "BEYOND.")
    static void ofBeyond() {
        refused("of(0, 0), nobody is there", BucketGift::image, x -> x.of(0, 0), BEYOND);
        range("of(_, 5)", 0, 5, (x, v) -> x.of(v, GIVES));
        range("of(_, 0) of eight", Twins::full, 0, 7, (x, v) -> x.of(v, 0));
        range("of(0, _)", 0, 5, (x, v) -> x.of(0, v));
    }

    @Sentence(promise = 7, says = "DEEDS (what 1), STEP (2; one that is there), ASKED (3) of one becomes v: what it was.")
    static void setTellsWhatItWas() {
        int[] most = {0, 255, 2, 9};
        int[] first = {0, 0, 1, 0};
        for (int what = 1; what <= 3; what++) {
            BucketGift x = with(SHAM, SHAM, SHAM);
            due("at first", x.set(1, what, most[what]), first[what]);
            due("then", x.set(1, what, 0), most[what]);
            due("the same", x.set(1, what, 0), 0);
            for (int other = 0; other <= 3; other++) {
                int want = other == 0 ? SHAM : other == what ? 0 : first[other];
                due("of(1, " + other + ")", x.of(1, other), want);
            }
            due("another one's", x.of(2, what), what == STEP ? 2 : 0);
        }
    }

    @Sentence(promise = 7, says = "STEP (2; one that is there)")
    static void stepOfOneThatIsThere() {
        BucketGift x = with(SHAM);
        due("not there yet", x.set(0, STEP, 1), BEYOND);
        x.person(FARMER);
        due("there by now", x.set(0, STEP, 1), 0);
        due("itself", x.set(0, STEP, 0), 1);
    }

    @Sentence(promise = 7, says = "BEYOND.")
    static void setBeyond() {
        refused("set(0, 1, 0), nobody is there", BucketGift::image, x -> x.set(0, DEEDS, 0), BEYOND);
        range("set(_, 1, 1)", 0, 5, (x, v) -> x.set(v, DEEDS, 1));
        range("set(0, _, 1)", 1, 3, (x, v) -> x.set(0, v, 1));
        range("set(0, 1, _)", 0, 255, (x, v) -> x.set(0, DEEDS, v));
        range("set(0, 2, _)", 0, 5, (x, v) -> x.set(0, STEP, v));
        range("set(0, 3, _)", 0, 9, (x, v) -> x.set(0, ASKED, v));
    }

    @Sentence(promise = 8, says = "One becomes one of another KIND: what it was.")
    static void turnTellsWhatItWas() {
        for (int from = 0; from < 6; from++) {
            for (int to = 0; to < 6; to++) {
                BucketGift x = with(FARMER, from);
                x.set(1, DEEDS, 96);
                x.set(1, STEP, 0);
                x.set(1, ASKED, 2);
                due("from " + from + " to " + to, x.turn(1, to), from);
                int[] want = {to, 96, 0, 2};
                for (int what = 0; what < 4; what++) {
                    due("of(1, " + what + ")", x.of(1, what), want[what]);
                }
                due("the other", x.of(0, 0), FARMER);
            }
        }
    }

    @Sentence(promise = 8, says = "BEYOND.")
    static void turnBeyond() {
        refused("turn(0, 0), nobody is there", BucketGift::image, x -> x.turn(0, 0), BEYOND);
        range("turn(_, 3)", 0, 5, (x, v) -> x.turn(v, STRANGER));
        range("turn(0, _)", 0, 5, (x, v) -> x.turn(0, v));
    }

    @Sentence(promise = 9, says = "One as one of a kind: DEEDS.")
    static void asTellsDeeds() {
        for (int deeds : new int[] {0, 1, 128, 255}) {
            BucketGift x = with(SHAM);
            x.set(0, DEEDS, deeds);
            due("as a sham", x.as(0, SHAM), deeds);
            due("as a lazy one", x.as(0, LAZY), deeds);
            due("as a farmer", x.as(0, FARMER), deeds);
        }
        onlyAsks("as(5, 2)", y -> y.as(5, KINDLY));
    }

    @Sentence(promise = 9, says = "BEYOND: no such one, kind.")
    static void asBeyond() {
        refused("as(0, 0), nobody is there", BucketGift::image, x -> x.as(0, 0), BEYOND);
        range("as(_, 0)", 0, 5, (x, v) -> x.as(v, FARMER));
        for (int v : new int[] {-1, 6, MIN, MAX}) {
            refused("as(4, " + v + ")", x -> x.as(4, v), BEYOND);
        }
    }

    @Sentence(promise = 9, says = "KIND: it isn't of that kind, nor of one under it.")
    static void asKind() {
        String[] above = {"0", "01", "02", "03", "014", "025"};
        for (int p = 0; p < 6; p++) {
            for (int kind = 0; kind < 6; kind++) {
                int one = p;
                int other = kind;
                if (above[p].indexOf('0' + kind) < 0) {
                    refused("as(" + p + ", " + kind + ")", x -> x.as(one, other), KIND);
                }
            }
        }
        BucketGift x = with(FARMER);
        due("a farmer isn't lazy", x.as(0, LAZY), KIND);
        x.turn(0, SHAM);
        due("but is as a sham", x.as(0, LAZY), 0);
    }

    @Sentence(promise = 10, says = "One does a DEED (0 to 7): what it DESERVES then.")
    static void doesADeed() {
        BucketGift x = with(FARMER, SHAM, STRANGER);
        x.set(1, STEP, 2);
        due("a good one", x.does(0, 3), 6);
        due("again", x.does(0, 3), 6);
        due("a bad one", x.does(0, 4), 5);
        due("both are there", x.of(0, DEEDS), 24);
        x.water(BOTTOM, 5);
        x.water(WELL, 0);
        due("what a sham deserves itself, not what is given", x.does(1, 0), 7);
        due("the others have none", x.of(2, DEEDS), 0);
    }

    @Sentence(promise = 10, says = "BEYOND.")
    static void doesBeyond() {
        refused("does(0, 0), nobody is there", BucketGift::image, x -> x.does(0, 0), BEYOND);
        range("does(_, 7)", 0, 5, (x, v) -> x.does(v, 7));
        range("does(0, _)", 0, 7, (x, v) -> x.does(0, v));
        refused("does(0, 32)", x -> x.does(0, 32), BEYOND);
    }
}
