import java.util.ArrayList;
import java.util.List;

/**
 * Two objects with the same calls behind them, of which one gets one call more: if all that can be
 * seen is the same in both then, the call changed nothing. Looking uses the objects up.
 */
final class Twins {
    /** What is left of it tells how many bits a number has. */
    private static final long WIDE = 0x0123456789abcdefL;

    interface Call {
        long of(BucketGift x);
    }

    interface Start {
        void at(BucketGift x);
    }

    private Twins() {
    }

    /** Something of everything: an image, people of all kinds, sheets of all bits, a tape. */
    static void busy(BucketGift x) {
        x.person(0);
        x.person(1);
        x.farm(0, 2, 3);
        x.image();
        for (int kind = 2; kind < 6; kind++) {
            x.person(kind);
        }
        for (int f = 0; f < 4; f++) {
            x.farm(f, 0, 4 + f);
            x.farm(f, 1, 10 * f);
            x.farm(f, 3, f - 1);
        }
        x.water(0, 60);
        x.water(1, 11);
        x.water(2, 2);
        x.set(4, 2, 1);
        x.set(1, 1, 255);
        x.set(2, 1, 34);
        x.days(2);
        x.set(0, 3, 1);
        x.set(3, 3, 2);
        sheet(x, 0, 8, 1, 2, 3);
        sheet(x, 1, 16, 300, -4);
        sheet(x, 2, 64, 1L << 40);
        Checks.feed(x, "well 77;farm 1");
    }

    /** As busy, with eight people and 120 bytes on the tape. */
    static void full(BucketGift x) {
        busy(x);
        x.person(0);
        x.person(4);
        x.wipe();
        Checks.feed(x, "well 77;" + " ".repeat(104) + "spring 7");
    }

    /** As busy, but nothing is kept. */
    static void torn(BucketGift x) {
        busy(x);
        x.tear();
    }

    /** DAY 9999, with few calls besides, so that a look has room among the 512. */
    static void lastDay(BucketGift x) {
        x.person(3);
        x.image();
        x.farm(2, 3, 0);
        for (int i = 0; i < 166; i++) {
            x.days(60);
        }
        x.days(39);
        Checks.feed(x, "well 7");
    }

    private static void sheet(BucketGift x, int s, int bits, long... numbers) {
        x.sheet(s, bits, numbers.length);
        for (int i = 0; i < numbers.length; i++) {
            x.write(s, i, numbers[i]);
        }
    }

    /** A new object as the start makes it. */
    static BucketGift made(Start start) {
        BucketGift x = new BucketGift();
        start.at(x);
        return x;
    }

    static List<Long> status(BucketGift x) {
        List<Long> all = new ArrayList<>();
        for (int which = -1; which < 7; which++) {
            all.add((long) x.status(which));
        }
        return all;
    }

    /** All that can be seen but status. */
    static List<Long> look(BucketGift x) {
        List<Long> all = new ArrayList<>();
        lookAtParish(x, all);
        for (int s = 0; s < 4; s++) {
            lookAtSheet(x, s, all);
        }
        all.add((long) x.parish());
        lookAtParish(x, all);
        all.add((long) x.undo());
        lookAtParish(x, all);
        return all;
    }

    private static void lookAtParish(BucketGift x, List<Long> all) {
        for (int what = 0; what < 7; what++) {
            all.add((long) x.now(what));
        }
        for (int f = 0; f < 4; f++) {
            for (int what = 0; what < 4; what++) {
                all.add((long) x.farmOf(f, what));
            }
        }
        int people = x.count(0);
        all.add((long) people);
        all.add((long) x.count(1));
        for (int p = 0; p < people; p++) {
            for (int what = 0; what < 4; what++) {
                all.add((long) x.of(p, what));
            }
        }
    }

    /** Each number, how many bits it holds, and what tells the end. */
    private static void lookAtSheet(BucketGift x, int s, List<Long> all) {
        long was = 0;
        for (int i = 0; i <= 40 && was > -1000000000L; i++) {
            was = x.write(s, i, WIDE);
            all.add(was);
            if (i == 0) {
                all.add(x.write(s, i, 0));
            }
        }
        for (int t = 0; t < 4; t++) {
            all.add((long) x.copy(s, 0, t, 0, 0));
        }
    }
}
