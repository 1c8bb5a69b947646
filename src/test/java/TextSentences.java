/** Promises 26 to 28, and what 'Terms' says of the text. */
final class TextSentences extends SentenceTests {
    private static String shown(String text) {
        StringBuilder b = new StringBuilder("'");
        for (char c : text.toCharArray()) {
            b.append(c >= ' ' && c < 127 ? String.valueOf(c) : "\\" + (int) c);
        }
        return b.append("'").toString();
    }

    /** An object whose tape holds the text, byte by byte. */
    private static BucketGift fed(String text, int... kinds) {
        BucketGift x = with(kinds);
        for (char c : text.toCharArray()) {
            x.feed(c, 1);
        }
        return x;
    }

    private static BucketGift stands(int items, String text, int... kinds) {
        BucketGift x = fed(text, kinds);
        due(shown(text) + " with " + kinds.length + " people", x.parish(), items);
        due("the tape after " + shown(text), x.count(1), 0);
        due("findings after " + shown(text), x.status(-1), 0);
        return x;
    }

    /** The fault's place, and that nothing came of what stands before it. */
    private static void fault(int place, String text, int... kinds) {
        BucketGift x = fed(text, kinds);
        due(shown(text) + " with " + kinds.length + " people", x.parish(), -1 - place);
        due("findings after " + shown(text), x.status(-1), 0);
        due("nothing changed by " + shown(text), Twins.look(x).equals(Twins.look(with(kinds))));
    }

    private static final int[] SEVEN = {0, 0, 0, 0, 0, 0, 0};
    private static final int[] EIGHT = {0, 0, 0, 0, 0, 0, 0, 0};

    @Sentence(says = "THE TAPE (bytes, at most 120)")
    static void tapeOf120() {
        BucketGift x = with();
        for (int i = 1; i <= 30; i++) {
            due("four more", x.feed(0, 4), 4 * i);
        }
        for (int n = 1; n <= 4; n++) {
            due("no room for " + n, x.feed(0, n), FULL);
        }
        due("120", x.count(1), 120);
        stands(20, "well0;".repeat(19) + "well 7");
        fault(0, ";".repeat(120));
        fault(0, ",".repeat(120));
        fault(0, "7a".repeat(60));
        fault(120, "well0;".repeat(20));
        fault(119, "well" + " ".repeat(115) + "w");
        fault(120, "well" + " ".repeat(116));
        stands(1, "well" + " ".repeat(115) + "7");
    }

    @Sentence(says = "TOKENS, each as long as can be")
    static void tokensAreLong() {
        fault(0, "farmerlazy");
        fault(0, "farmers");
        fault(0, "farme");
        fault(0, "farmfarm 0");
        fault(5, "farm 00000000000000000012");
        fault(5, "farm 031");
        stands(1, "farm 0need 1has 2");
        stands(1, "farm0need1has2");
        stands(1, "lazy did0step0");
        fault(9, "lazy did 12");
        fault(5, "lazy didstep 0");
    }

    @Sentence(says = "WORDS (letters a to z)")
    static void wordsOfLetters() {
        fault(0, "Farmer");
        fault(0, "FARMER");
        fault(0, "farM 0");
        fault(4, "lazyA");
        fault(4, "lazy`");
        fault(4, "lazy{");
        fault(0, "a");
        fault(0, "z");
        fault(4, "lazy\u00e9");
    }

    @Sentence(says = "WORDS (letters a to z)")
    static void wordsLetterByLetter() {
        String[] heads = {"", "", "", "", "", "", "", "", "", "lazy ", "lazy ", "farm 0 ", "farm 0 ", "farm 0 "};
        String[] words = {"farmer", "lazy", "kind", "stranger", "sham", "priest", "farm", "well", "spring", "did", "step",
            "need", "has", "sends"};
        for (int w = 0; w < words.length; w++) {
            String tail = w < 6 ? "" : " 0";
            stands(1, heads[w] + words[w] + tail, FARMER);
            for (int i = 0; i < words[w].length(); i++) {
                StringBuilder other = new StringBuilder(words[w]);
                other.setCharAt(i, other.charAt(i) == 'z' ? 'y' : (char) (other.charAt(i) + 1));
                fault(heads[w].length(), heads[w] + other + tail, FARMER);
            }
        }
    }

    @Sentence(says = "NUMBERS (digits, 9999 at most)")
    static void numbersOfDigits() {
        due("9999", stands(1, "well 9999").now(1), 9999);
        due("0", stands(1, "well 0").now(1), 0);
        due("1234", stands(1, "well 1234").now(1), 1234);
        due("5678", stands(1, "well 5678").now(1), 5678);
        due("0090", stands(1, "well 0090").now(1), 90);
        due("000000000000012", stands(1, "well 000000000000012").now(1), 12);
        fault(5, "well 10000");
        fault(5, "well 99999");
        fault(5, "well 4294967297");
        fault(5, "well 18446744073709551617");
        fault(5, "well " + "9".repeat(115));
        due("115 digits", stands(1, "well " + "0".repeat(114) + "7").now(1), 7);
        fault(5, "well -1");
        fault(5, "well +1");
        fault(6, "well 1.0");
        fault(5, "well /");
        fault(5, "well :");
    }

    @Sentence(says = "SIGN ;")
    static void signBetweenItems() {
        stands(2, "lazy;lazy");
        fault(4, "lazy,lazy");
        fault(4, "lazy:lazy");
        fault(4, "lazy<lazy");
    }

    @Sentence(says = "blanks may stand between")
    static void blanksBetween() {
        stands(1, "farm 0 need 1 has 2");
        stands(1, "farm   0   need   1   has   2");
        stands(2, "lazy;lazy");
        stands(2, "lazy ;lazy");
        stands(2, "lazy  ;  lazy");
        stands(1, "well7");
        stands(1, "  well 7");
        stands(1, "well 7  ");
        fault(7, "well 7 7");
        fault(0, "we ll 7");
    }

    @Sentence(says = "TEXT: ITEM { ; ITEM }")
    static void itemsWithSigns() {
        stands(1, "lazy");
        stands(2, "lazy;farm 0");
        stands(3, "lazy;farm 0;well 1");
        fault(0, "");
        fault(0, ";");
        fault(0, ";lazy");
        fault(5, "lazy;");
        fault(5, "lazy;;");
        fault(5, "lazy;;lazy");
        fault(5, "lazy lazy");
        fault(7, "farm 0 well 1");
        fault(7, "well 1 spring 1");
        stands(20, "well1;".repeat(19) + "lazy");
    }

    @Sentence(says = "the name of a KIND (farmer lazy kind stranger sham priest)")
    static void namesOfKinds() {
        String[] names = {"farmer", "lazy", "kind", "stranger", "sham", "priest"};
        for (int kind = 0; kind < 6; kind++) {
            BucketGift x = stands(1, names[kind]);
            int[] want = {kind, 0, 0, 0};
            for (int what = 0; what < 4; what++) {
                due("of(0, " + what + ") of " + names[kind], x.of(0, what), want[what]);
            }
            String name = names[kind];
            fault(0, name.substring(1));
            fault(0, name.substring(0, name.length() - 1));
            fault(0, name + "a");
            fault(0, "a" + name);
            fault(0, name.substring(0, 1) + "x" + name.substring(2));
        }
    }

    @Sentence(says = "perhaps did and up to 4 NUMBERS (DEEDS, 0 to 7; one at least)")
    static void deedsTold() {
        due("none", stands(1, "lazy").of(0, DEEDS), 0);
        due("one", stands(1, "lazy did 0").of(0, DEEDS), 1);
        due("two", stands(1, "lazy did 7 0").of(0, DEEDS), 129);
        due("three", stands(1, "lazy did 4 5 6").of(0, DEEDS), 112);
        due("four", stands(1, "lazy did 7 1 3 2").of(0, DEEDS), 142);
        due("one, twice", stands(1, "lazy did 3 3").of(0, DEEDS), 8);
        due("one, four times", stands(1, "lazy did 3 3 3 3").of(0, DEEDS), 8);
        for (int deed = 0; deed <= 7; deed++) {
            due("deed " + deed, stands(1, "sham did " + deed).of(0, DEEDS), 1 << deed);
        }
        fault(8, "lazy did");
        fault(8, "lazy did;");
        fault(9, "lazy did step 0");
        fault(9, "lazy did 8");
        fault(11, "lazy did 7 8");
        fault(13, "lazy did 7 7 8");
        fault(15, "lazy did 7 7 7 8");
        fault(11, "lazy did 7 did 7");
        fault(7, "farm 0 did 1");
    }

    @Sentence(says = "perhaps step and a NUMBER (one of PEOPLE there by then, itself too): one more")
    static void stepTold() {
        due("itself, alone", stands(1, "sham step 0").of(0, STEP), 0);
        fault(10, "sham step 1");
        due("another", stands(1, "sham step 0", 0, 0).of(2, STEP), 0);
        due("itself, the third", stands(1, "sham step 2", 0, 0).of(2, STEP), 2);
        fault(10, "sham step 3", 0, 0);
        BucketGift x = stands(2, "lazy;sham did 1 step 0");
        due("one who came by the same text", x.of(1, STEP), 0);
        due("one more", x.count(0), 2);
        fault(10, "sham step 1;lazy");
        due("itself, the eighth", stands(1, "sham step 7", SEVEN).of(7, STEP), 7);
        fault(10, "sham step 8", SEVEN);
        fault(9, "sham step");
        fault(9, "sham step;");
        fault(10, "sham step sham");
        fault(12, "sham step 0 did 1");
        fault(12, "sham step 0 0");
        fault(12, "sham step 0 step 0");
    }

    @Sentence(says = "farm, a NUMBER (0 to 3)")
    static void farmTold() {
        for (int f = 0; f <= 3; f++) {
            BucketGift x = stands(1, "farm " + f + " need 7 has 8");
            for (int other = 0; other <= 3; other++) {
                due("NEED of " + other, x.farmOf(other, NEED), other == f ? 7 : 3);
                due("STORE of " + other, x.farmOf(other, STORE), other == f ? 8 : 5);
                due("THIRST of " + other, x.farmOf(other, THIRST), 0);
            }
            BucketGift alone = stands(1, "farm " + f);
            due("nothing of it told", Twins.look(alone).equals(Twins.look(with())));
        }
        fault(5, "farm 4");
        fault(4, "farm");
        fault(4, "farm;");
        fault(5, "farm need 1");
        fault(7, "farm 0 0");
    }

    @Sentence(says = "perhaps need and a NUMBER (0 to 20)")
    static void needTold() {
        due("0", stands(1, "farm 1 need 0").farmOf(1, NEED), 0);
        due("20", stands(1, "farm 1 need 20").farmOf(1, NEED), 20);
        fault(12, "farm 1 need 21");
        fault(11, "farm 1 need");
        fault(12, "farm 1 need has 1");
        fault(14, "farm 1 need 1 need 1");
        fault(14, "farm 1 need 1 1");
    }

    @Sentence(says = "perhaps has and a NUMBER (STORE)")
    static void storeTold() {
        due("0", stands(1, "farm 1 has 0").farmOf(1, STORE), 0);
        due("9999", stands(1, "farm 1 has 9999").farmOf(1, STORE), 9999);
        fault(11, "farm 1 has 10000");
        fault(10, "farm 1 has");
        fault(11, "farm 1 has sends 0", FARMER);
        fault(13, "farm 1 has 1 need 1");
        fault(13, "farm 1 has 1 has 1");
    }

    @Sentence(says = "perhaps sends and a NUMBER (one of PEOPLE there by then)")
    static void sentTold() {
        fault(13, "farm 1 sends 0");
        due("the only one", stands(1, "farm 1 sends 0", FARMER).farmOf(1, SENDS), 0);
        fault(13, "farm 1 sends 1", FARMER);
        due("the eighth", stands(1, "farm 1 sends 7", EIGHT).farmOf(1, SENDS), 7);
        fault(13, "farm 1 sends 8", EIGHT);
        due("by then", stands(2, "lazy;farm 1 sends 1", FARMER).farmOf(1, SENDS), 1);
        fault(13, "farm 1 sends 1;lazy", FARMER);
        fault(12, "farm 1 sends", FARMER);
        fault(13, "farm 1 sends -1", FARMER);
        fault(15, "farm 1 sends 0 has 1", FARMER);
        fault(15, "farm 1 sends 0 sends 0", FARMER);
        BucketGift x = stands(1, "farm 2 need 1 has 2 sends 0", FARMER);
        int[] want = {1, 2, 0, 0};
        for (int what = 0; what < 4; what++) {
            due("all of it: " + what, x.farmOf(2, what), want[what]);
        }
        due("need and sends alone", stands(1, "farm 2 need 1 sends 0", FARMER).farmOf(2, STORE), 5);
    }

    @Sentence(says = "well and a NUMBER (0 to 9999)")
    static void wellTold() {
        due("0", stands(1, "well 0").now(1), 0);
        due("9999", stands(1, "well 9999").now(1), 9999);
        due("twice", stands(2, "well 1;well 2").now(1), 2);
        fault(5, "well 10000");
        fault(4, "well");
        fault(4, "well;");
        fault(5, "well well");
    }

    @Sentence(says = "spring and a NUMBER (0 to 99)")
    static void springTold() {
        due("0", stands(1, "spring 0").now(2), 0);
        due("99", stands(1, "spring 99").now(2), 99);
        fault(7, "spring 100");
        fault(6, "spring");
        fault(6, "spring;");
        fault(0, "bottom 1");
    }

    @Sentence(says = "FAULT: the place (from 0) of the first byte of the first TOKEN that can't stand there")
    static void placeOfTheFirst() {
        fault(0, "x");
        fault(1, " x");
        fault(5, "lazy xyz");
        fault(5, "lazy;xyz;uvw");
        fault(8, "well 1; farms");
        fault(9, "lazy did 9 , xyz");
        fault(13, "well 1;lazy; ;farm 9");
    }

    @Sentence(says = "a NUMBER that may not be or is a fifth DEED")
    static void numberThatMayNotBe() {
        fault(17, "lazy did 0 1 2 3 4");
        fault(17, "lazy did 0 0 0 0 0");
        fault(17, "lazy did 0 1 2 3 99999");
        fault(17, "lazy did 0 1 2 3 4 5");
        stands(1, "lazy did 0 1 2 3 step 0");
        fault(5, "farm 9");
        fault(0, "7");
        fault(5, "lazy 7");
        fault(5, "lazy;7");
        fault(5, "farm 10000");
    }

    @Sentence(says = "another WORD")
    static void anotherWord() {
        fault(0, "did");
        fault(0, "step 0");
        fault(0, "need 1");
        fault(0, "has 1");
        fault(0, "sends 0", FARMER);
        fault(5, "lazy need 1");
        fault(7, "farm 0 step 0", FARMER);
        fault(7, "farm 0 lazy");
        fault(5, "well spring");
        fault(8, "spring  did");
    }

    @Sentence(says = "a byte that begins no TOKEN")
    static void everyByte() {
        for (int b = 0; b < 256; b++) {
            boolean letter = b >= 'a' && b <= 'z';
            boolean digit = b >= '0' && b <= '9';
            if (b == ' ') {
                stands(2, "lazy;lazy" + (char) b);
                stands(2, "lazy;" + (char) b + "lazy");
            } else if (b == ';') {
                fault(6, "well1;" + (char) b);
            } else if (!letter) {
                fault(4, "lazy" + (char) b);
                fault(5, "lazy " + (char) b + ";lazy");
            }
            if (!letter && !digit && b != ' ') {
                fault(5, "well " + (char) b);
                fault(0, (char) b + "well 1");
            }
            if (!digit && b != ' ' && b != ';') {
                fault(6, "well 1" + (char) b);
            }
        }
    }

    @Sentence(says = "the name of a KIND for a 9th: its own")
    static void theNinth() {
        due("the eighth", stands(1, "lazy did 1 step 7", SEVEN).count(0), 8);
        for (String name : new String[] {"farmer", "lazy", "kind", "stranger", "sham", "priest"}) {
            fault(0, name, EIGHT);
            fault(5, "lazy;" + name, SEVEN);
            fault(8, "well 1; " + name + " did 9", EIGHT);
        }
        stands(1, "farm 0 sends 7", EIGHT);
        fault(35, "lazy;lazy;lazy;lazy;lazy;lazy;lazy;lazy;lazy", FARMER);
        stands(8, "lazy;lazy;lazy;lazy;lazy;lazy;lazy;lazy");
        fault(40, "lazy;lazy;lazy;lazy;lazy;lazy;lazy;lazy;lazy");
    }

    @Sentence(says = "or how many bytes there are if it ends too early")
    static void endsTooEarly() {
        fault(0, "");
        fault(1, " ");
        fault(120, " ".repeat(120));
        fault(5, "lazy;");
        fault(7, "lazy;  ");
        fault(10, "lazy did  ");
        fault(120, "lazy;" + " ".repeat(115));
        String[] early = {"lazy did", "lazy step", "lazy did 1 step", "farm", "farm 0 need", "farm 0 has",
            "farm 0 need 1 has", "farm 0 sends", "farm 0 need 1 has 1 sends", "well", "spring", "well 1;"};
        for (String text : early) {
            fault(text.length(), text, FARMER);
            fault(text.length() + 3, text + "   ", FARMER);
        }
    }

    @Sentence(promise = 26, says = "THE TAPE gets the n lowest bytes of a number behind it, the highest of these first (n 1 to 4): how many it has.")
    static void feedsBytes() {
        BucketGift x = with();
        int well = 'w' << 24 | 'e' << 16 | 'l' << 8 | 'l';
        due("four", x.feed(well, 4), 4);
        due("one, of -1 and 7", x.feed(-256 | '7', 1), 5);
        due("two, above them rubbish", x.feed(0x7fff0000 | '0' << 8 | '1', 2), 7);
        due("none changed", x.count(1), 7);
        due("it is well701", x.parish(), 1);
        due("THE WELL", x.now(1), 701);
        due("three", x.feed(0x77000000 | 'w' << 16 | 'e' << 8 | 'l', 3), 3);
        due("one", x.feed('l', 1), 4);
        due("two", x.feed('4' << 8 | '2', 2), 6);
        due("it is well42", x.parish(), 1);
        due("THE WELL", x.now(1), 42);
        due("bytes from 128 on", x.feed(-1, 4), 4);
        due("begin no token", x.parish(), -1);
    }

    @Sentence(promise = 26, says = "BEYOND: n.")
    static void feedBeyond() {
        range("feed(7, _)", 1, 4, (x, v) -> x.feed('7', v));
    }

    private static void bytes(BucketGift x, int many) {
        for (int i = 0; i < many; i++) {
            x.feed(' ', 1);
        }
    }

    @Sentence(promise = 26, says = "FULL.")
    static void feedFull() {
        for (int n = 1; n <= 4; n++) {
            int many = n;
            refused("feed(.., " + n + ") to 120", Twins::full, x -> x.feed('7', many), FULL);
            refused("one too many with " + n, x -> bytes(x, 121 - many), x -> x.feed('7', many), FULL);
            BucketGift x = with();
            bytes(x, 120 - n);
            due("just enough room for " + n, x.feed('7', n), 120);
        }
        BucketGift y = Twins.made(Twins::full);
        y.wipe();
        due("room again", y.feed('7', 4), 4);
    }

    @Sentence(promise = 27, says = "THE TAPE is empty: how many it had.")
    static void wipes() {
        due("of nothing", with().wipe(), 0);
        BucketGift x = Twins.made(Twins::full);
        due("of 120", x.wipe(), 120);
        due("empty", x.count(1), 0);
        due("of nothing again", x.wipe(), 0);
        due("an empty text", x.parish(), -1);
        BucketGift y = fed("well 7;");
        due("of seven", y.wipe(), 7);
        Checks.feed(y, "lazy");
        due("what comes then stands alone", y.parish(), 1);
        due("THE WELL is as it was", y.now(1), 100);
    }

    @Sentence(promise = 28, says = "whose ITEMS come to what there is, and empty then: how many ITEMS.")
    static void itemsCome() {
        BucketGift x = with(STRANGER);
        x.farm(3, THIRST, 9);
        x.farm(3, SENDS, 0);
        x.water(BOTTOM, 4);
        x.days(1);
        x.set(0, ASKED, 3);
        Checks.feed(x, "sham did 7 step 0;farm 3 need 1;farm 3 has 2;well 3;spring 4");
        due("items", x.parish(), 5);
        due("empty", x.count(1), 0);
        int[] farm = {1, 2, 9, 0};
        for (int what = 0; what < 4; what++) {
            due("farmOf(3, " + what + ")", x.farmOf(3, what), farm[what]);
        }
        int[] now = {1, 3, 4, 4};
        for (int what = 0; what < 4; what++) {
            due("now(" + what + ")", x.now(what), now[what]);
        }
        due("who was there before", x.of(0, ASKED), 3);
        int[] sham = {SHAM, 128, 0, 0};
        for (int what = 0; what < 4; what++) {
            due("of(1, " + what + ")", x.of(1, what), sham[what]);
        }
        due("no more than once", x.parish(), -1);
        due("two people", x.count(0), 2);
    }

    @Sentence(promise = 28, says = "With a FAULT: -1 less its place (nothing changes but that THE TAPE is empty; no finding).")
    static void faultsChangeNothing() {
        BucketGift x = Twins.made(Twins::busy);
        BucketGift twin = Twins.made(Twins::busy);
        x.wipe();
        twin.wipe();
        Checks.feed(x, "lazy did 1 step 0;farm 0 need 9 has 8 sends 1;well 7;spring 6;oh");
        due("the place", x.parish(), -1 - 62);
        due("THE TAPE", x.count(1), 0);
        due("no finding", Twins.status(x).equals(Twins.status(twin)));
        due("nothing changed", Twins.look(x).equals(Twins.look(twin)));
        due("the first place", fed("oh").parish(), -1);
        due("the last place", fed(" ".repeat(119) + "o").parish(), -120);
        due("behind the last", fed(" ".repeat(120)).parish(), -121);
    }
}
