/** What the tests share: the constants, fountains made ready, and all that is told of one. */
abstract class Fountains {
    static final int UNKNOWN = CupFountain.UNKNOWN;
    static final int BAD_VALUE = CupFountain.BAD_VALUE;
    static final int FULL = CupFountain.FULL;
    static final int NOT_POSSIBLE = CupFountain.NOT_POSSIBLE;
    static final int NONE = CupFountain.NONE;
    static final int BASIN = 8;
    static final int MOST_WATER = 9999;
    static final int MOST_TICK = 99999;

    static final Checks checks = new Checks();

    static void due(String call, long got, long want) {
        checks.due(call, got, want);
    }

    /** Numbers just below and above a range, and far off it. */
    static int[] beyond(int least, int most) {
        return new int[] {least - 1, most + 1, least - 100, most + 1000, Integer.MIN_VALUE, Integer.MAX_VALUE};
    }

    /** A fountain whose spring is dry. */
    static CupFountain dry() {
        CupFountain x = new CupFountain();
        x.set(0, 0);
        return x;
    }

    /** Puts another text in place of the one that is. */
    static void write(CupFountain x, String text) {
        x.clearText();
        for (int i = 0; i < text.length(); i++) {
            x.type(text.charAt(i));
        }
    }

    static int perform(CupFountain x, String text) {
        write(x, text);
        return x.perform();
    }

    /** Fills in so much water, by 99 at most at a time. */
    static void pour(CupFountain x, int cup, int water) {
        int left = water;
        while (left > 0) {
            int part = Math.min(left, 99);
            x.fill(cup, part);
            left -= part;
        }
    }

    /** Lets ticks pass up to a tick, by 99 at most at a time. */
    static void passTo(CupFountain x, int tick) {
        int left = Math.min(tick - x.count(0), 1000);
        while (left > 0) {
            int part = Math.min(left, 99);
            x.pass(part);
            left -= part;
        }
    }

    /** A fountain just ahead of the last tick: 99 ticks a call would not reach it in 512 calls. */
    static CupFountain atTheLastTicks(int tick) {
        CupFountain x = dry();
        write(x, ".99;.99;.99;.99;.99;.99;.99;.99;.99;.99;.99;.99;.99;.99;.99");
        for (int i = 0; i < tick / (15 * 99); i++) {
            x.perform();
        }
        passTo(x, tick);
        return x;
    }

    /**
     * The spring gives 2 and the cup 0 leaks 1, so that it wins 1 in a tick and
     * spills 11 in each 10th. The cup 7 gets these 11 and leaks 10 till the next
     * ones come: in the k-th of these ticks it has 10 + k. So with the size 60 it
     * tips first in 500 ticks.
     */
    static CupFountain edgeOf500(int size) {
        CupFountain x = new CupFountain();
        x.set(0, 2);
        x.setCup(0, 0, 11);
        x.setCup(0, 1, 1);
        x.setCup(7, 1, 1);
        x.setCup(7, 0, size);
        return x;
    }

    /**
     * As edgeOf500, but the cup 0 spills in the first tick, and so for the 51st
     * time in the 501st one: there the cup 7 tips, one tick beyond the 500.
     */
    static CupFountain edgeOf501() {
        CupFountain x = edgeOf500(61);
        x.fill(0, 9);
        return x;
    }

    /** All that is told of a state; takes 109 calls of the 512. */
    static int[] all(CupFountain x) {
        int[] told = new int[8 * 12 + 13];
        for (int i = 0; i < 8 * 12; i++) {
            told[i] = x.cup(i / 12, i % 12);
        }
        for (int i = 0; i < 13; i++) {
            told[8 * 12 + i] = x.count(i);
        }
        return told;
    }

    static void same(String what, CupFountain x, int[] told) {
        int[] now = all(x);
        for (int i = 0; i < told.length; i++) {
            due(what + " [" + i + "]", now[i], told[i]);
        }
    }
}
