/**
 * The sentences of CUPS, A TICK, HOURS and JETS that name a boundary, one test
 * for each; the sentence stands above its test.
 */
public final class TermsTest extends Fountains {
    public static void main(String[] args) {
        cupsWithinAndBeyond();
        sizes();
        sizeAtFirst();
        waterAtFirst();
        leaks();
        leakAtFirst();
        spillsIntoAHigherNumber();
        spillsAtFirst();
        lockAtFirst();
        springInEachTick();
        springAtFirst();
        comesBackAtMost();
        comesBackAtFirst();

        tickAtFirst();
        basinHasLess();
        hasItsSizeOrMore();
        lockMustBeOpen();
        spillsAllOfItsWater();
        tipsInTheSameTick();
        keepsTheMostWater();
        restGoesIntoTheBasin();
        dripsToNothing();
        dripsAtTheEndOfTheTick();
        tickIsOneMore();

        daysComeRound();
        dayAtFirst();
        hourOfACup();
        hourAtFirst();
        onTimeEarlyLate();
        withoutAnHour();
        guardNeedsAnHour();
        guardOpensInItsHour();
        guardShutsAsItHasTipped();
        guardShutsAtTheEndOfTheTick();
        guardOverMidnight();
        guardWhoseHourNeverComes();

        heightOfAJet();
        jetStandsForOneTick();
        jetOfEachCup();
        checks.close("TermsTest");
    }

    // ---- cups

    // "There are 8 cups, 0 to 7."
    private static void cupsWithinAndBeyond() {
        for (int cup = 0; cup < 8; cup++) {
            CupFountain x = dry();
            due("a size of the cup " + cup, x.setCup(cup, 0, 11), 10);
            due("a lock of the cup " + cup, x.turnLock(cup), 0);
            due("an hour of the cup " + cup, x.setHour(cup, 5), 240);
            due("a guard of the cup " + cup, x.guard(cup), 1);
            due("water for the cup " + cup, x.fill(cup, 1), 1);
            due("the size of the cup " + cup, x.cup(cup, 0), 11);
            due("the reason of the cup " + cup, x.reason(cup), 1);
            due("the ticks of the cup " + cup, x.tipsIn(cup), NONE);
            due("the hour of the cup " + cup, x.tipsAt(cup), NONE);
            due("the best size of the cup " + cup, x.bestSize(cup), 1);
        }
        for (int cup : beyond(0, 7)) {
            CupFountain x = dry();
            due("a size of no cup " + cup, x.setCup(cup, 0, 11), UNKNOWN);
            due("a lock of no cup " + cup, x.turnLock(cup), UNKNOWN);
            due("an hour of no cup " + cup, x.setHour(cup, 5), UNKNOWN);
            due("a guard of no cup " + cup, x.guard(cup), UNKNOWN);
            due("water for no cup " + cup, x.fill(cup, 1), UNKNOWN);
            due("the size of no cup " + cup, x.cup(cup, 0), UNKNOWN);
            due("the reason of no cup " + cup, x.reason(cup), UNKNOWN);
            due("the ticks of no cup " + cup, x.tipsIn(cup), UNKNOWN);
            due("the hour of no cup " + cup, x.tipsAt(cup), UNKNOWN);
            due("the best size of no cup " + cup, x.bestSize(cup), UNKNOWN);
        }
    }

    // "A cup has a size (1 to 99 ..)"
    private static void sizes() {
        for (int size = 1; size <= 99; size++) {
            CupFountain x = dry();
            due("the size " + size, x.setCup(7, 0, size), size == 10 ? NONE : 10);
            pour(x, 7, size - 1);
            due("the size " + size + ", and one less", x.pass(1), 0);
            x.fill(7, 1);
            due("the size " + size + ", and as much", x.pass(1), 1);
        }
        for (int size : beyond(1, 99)) {
            due("no size " + size, dry().setCup(7, 0, size), BAD_VALUE);
        }
    }

    // ".. a size (.. 10 at first)"
    private static void sizeAtFirst() {
        for (int cup = 0; cup < 8; cup++) {
            CupFountain x = dry();
            due("the size at first", x.cup(cup, 0), 10);
            x.fill(cup, 9);
            due("9 is too little at first", x.pass(1), 0);
            x.fill(cup, 1);
            due("10 is enough at first, for those behind it too", x.pass(1), 8 - cup);
        }
    }

    // ".. water (0 at first)"
    private static void waterAtFirst() {
        CupFountain x = dry();
        for (int cup = 0; cup < 8; cup++) {
            due("water at first", x.cup(cup, 3), 0);
            x.setCup(cup, 0, 1);
        }
        due("not even for the size 1", x.pass(99), 0);
        due("nor lost", x.count(4), 0);
    }

    // ".. a leak (0 to 9 ..)"
    private static void leaks() {
        for (int leak = 0; leak <= 9; leak++) {
            CupFountain x = dry();
            due("the leak " + leak, x.setCup(7, 1, leak), leak == 0 ? NONE : 0);
            x.fill(7, 9);
            x.pass(1);
            due("the leak " + leak + " leaves", x.cup(7, 3), 9 - leak);
            due("the leak " + leak + " loses", x.count(4), leak);
        }
        for (int leak : beyond(0, 9)) {
            due("no leak " + leak, dry().setCup(7, 1, leak), BAD_VALUE);
        }
    }

    // ".. a leak (.. 0 at first)"
    private static void leakAtFirst() {
        CupFountain x = dry();
        for (int cup = 0; cup < 8; cup++) {
            due("the leak at first", x.cup(cup, 1), 0);
            x.fill(cup, 1);
        }
        x.pass(99);
        due("none drips at first", x.count(2), 8);
    }

    // ".. a cup into which it spills, with a higher number, or none (the basin ..)"
    private static void spillsIntoAHigherNumber() {
        for (int cup = 0; cup < 8; cup++) {
            for (int next = -1; next <= cup; next++) {
                due(cup + " does not spill into " + next, dry().setCup(cup, 2, next), BAD_VALUE);
            }
            for (int next = cup + 1; next <= BASIN; next++) {
                CupFountain x = dry();
                due(cup + " spills into " + next, x.setCup(cup, 2, next), next == cup + 1 ? NONE : cup + 1);
                if (next < BASIN) {
                    x.setCup(next, 0, 99);
                }
                x.fill(cup, 10);
                due(cup + " tips", x.pass(1), 1);
                due(cup + " spilled into " + next, next < BASIN ? x.cup(next, 3) : x.count(3), 10);
            }
            for (int next : beyond(0, BASIN)) {
                due(cup + " does not spill into " + next, dry().setCup(cup, 2, next), BAD_VALUE);
            }
        }
    }

    // ".. at first the cup k spills into the cup k + 1, the cup 7 into the basin"
    private static void spillsAtFirst() {
        for (int cup = 0; cup < 8; cup++) {
            CupFountain x = dry();
            due("at first " + cup + " spills", x.cup(cup, 2), cup + 1);
            if (cup < 7) {
                x.turnLock(cup + 1);
            }
            x.fill(cup, 10);
            x.pass(1);
            due("at first " + cup + " spilled", cup < 7 ? x.cup(cup + 1, 3) : x.count(3), 10);
        }
    }

    // ".. a lock, shut or open (open at first)"
    private static void lockAtFirst() {
        for (int cup = 0; cup < 8; cup++) {
            CupFountain x = dry();
            due("the lock at first", x.cup(cup, 5), 1);
            due("no guard at first", x.cup(cup, 6), 0);
            due("shut", x.turnLock(cup), 0);
            due("told as shut", x.cup(cup, 5), 0);
            x.fill(cup, 10);
            due("held", x.pass(99), 0);
            due("open", x.turnLock(cup), 1);
            due("told as open", x.cup(cup, 5), 1);
        }
    }

    // "The spring gives the setting 0 of water (0 to 99 ..) to the cup 0 in each tick."
    private static void springInEachTick() {
        for (int spring : new int[] {0, 1, 2, 98, 99}) {
            CupFountain x = new CupFountain();
            due("the spring " + spring, x.set(0, spring), 3);
            x.turnLock(0);
            x.pass(1);
            due("the spring " + spring + " in a tick", x.cup(0, 3), spring);
            x.pass(10);
            due("the spring " + spring + " in 11 ticks", x.cup(0, 3), 11 * spring);
            due("to no other cup", x.count(2), 11 * spring);
            due("as told", x.count(5), 11 * spring);
        }
        for (int spring : beyond(0, 99)) {
            due("no spring " + spring, dry().set(0, spring), BAD_VALUE);
        }
    }

    // ".. the setting 0 of water (.. 3 at first)"
    private static void springAtFirst() {
        CupFountain x = new CupFountain();
        due("the spring at first", x.count(10), 3);
        x.pass(1);
        due("gives", x.cup(0, 3), 3);
        due("gave", x.count(5), 3);
    }

    // "The setting 1 tells how much comes back from the basin into the spring at most in a tick, besides (0 to 99 ..)"
    private static void comesBackAtMost() {
        for (int most : new int[] {1, 2, 50, 98, 99}) {
            CupFountain x = dry();
            x.setCup(7, 0, 1);
            pour(x, 7, 250);
            x.pass(1);
            x.turnLock(0);
            due("at most " + most, x.set(1, most), 0);
            x.pass(1);
            due("comes back, at most " + most, x.cup(0, 3), most);
            due("stays, at most " + most, x.count(3), 250 - most);
            x.set(0, 7);
            x.pass(1);
            due("besides, at most " + most, x.cup(0, 3), 2 * most + 7);
            due("from the spring, at most " + most, x.count(5), 7);
        }
        for (int most : beyond(0, 99)) {
            due("no setting 1 of " + most, dry().set(1, most), BAD_VALUE);
        }
    }

    // "The setting 1 .. (.. 0 at first)"
    private static void comesBackAtFirst() {
        CupFountain x = dry();
        due("the setting 1 at first", x.count(11), 0);
        x.fill(7, 50);
        x.pass(10);
        due("none comes back at first", x.cup(0, 3), 0);
        due("all is in the basin", x.count(3), 50);
    }

    // ---- a tick

    // "The tick is 0 at first."
    private static void tickAtFirst() {
        CupFountain x = new CupFountain();
        due("the tick at first", x.count(0), 0);
        due("its hour", x.count(1), 0);
        x.setHour(7, 0);
        x.fill(7, 10);
        x.pass(1);
        due("on time in the tick 0", x.cup(7, 9), 1);
    }

    // ".. of the basin the setting 1, or all that is in it, if that is less."
    private static void basinHasLess() {
        int[] inBasin = {0, 1, 1, 2, 98, 99, 99, 100, 0};
        int[] atMost = {1, 1, 2, 1, 99, 99, 98, 99, 99};
        int[] back = {0, 1, 1, 1, 98, 99, 98, 99, 0};
        for (int i = 0; i < inBasin.length; i++) {
            CupFountain x = dry();
            x.setCup(7, 0, 1);
            pour(x, 7, inBasin[i]);
            x.pass(1);
            due("in the basin " + inBasin[i], x.count(3), inBasin[i]);
            x.turnLock(0);
            x.set(1, atMost[i]);
            x.pass(1);
            due("of " + inBasin[i] + " at most " + atMost[i], x.cup(0, 3), back[i]);
            due("is left of " + inBasin[i], x.count(3), inBasin[i] - back[i]);
        }
    }

    // ".. if it has water for its size or more .. it tips"
    private static void hasItsSizeOrMore() {
        int[] water = {8, 9, 10, 11, 99};
        int[] tips = {0, 0, 1, 1, 1};
        for (int i = 0; i < water.length; i++) {
            CupFountain x = dry();
            x.fill(7, water[i]);
            due("with " + water[i], x.pass(1), tips[i]);
            CupFountain y = dry();
            y.setCup(0, 2, BASIN);
            y.set(0, water[i]);
            due("with " + water[i] + " of the same tick", y.pass(1), tips[i]);
        }
    }

    // ".. and its lock is open, it tips"
    private static void lockMustBeOpen() {
        CupFountain x = dry();
        x.fill(7, 10);
        x.turnLock(7);
        due("shut", x.pass(1), 0);
        due("it keeps all", x.cup(7, 3), 10);
        x.turnLock(7);
        due("open", x.pass(1), 1);
        due("it keeps none", x.cup(7, 3), 0);
    }

    // "all of its water goes to the cup into which it spills, or into the basin."
    private static void spillsAllOfItsWater() {
        for (int water : new int[] {10, 11, 99, 100, MOST_WATER}) {
            CupFountain x = dry();
            pour(x, 6, water);
            x.fill(7, 3);
            x.turnLock(7);
            x.pass(1);
            due("left of " + water, x.cup(6, 3), 0);
            due("besides 3 and " + water, x.cup(7, 3) + x.count(3), water + 3);
            x.turnLock(7);
            x.pass(1);
            due("left of it", x.cup(7, 3), 0);
            due("all in the basin of " + water, x.count(3), water + 3);
            x.fill(7, 10);
            x.pass(1);
            due("besides what is in it", x.count(3), water + 13);
        }
    }

    // "(So one that tips can fill one behind it that tips in the same tick.)"
    private static void tipsInTheSameTick() {
        CupFountain x = dry();
        x.fill(0, 10);
        due("each one in the same tick", x.pass(1), 8);
        due("into the basin", x.count(3), 10);
        CupFountain y = dry();
        y.setCup(0, 2, 7);
        y.setCup(7, 0, 12);
        y.fill(0, 10);
        y.fill(7, 1);
        due("too little for the one behind", y.pass(1), 1);
        y.fill(0, 10);
        due("just enough with what it had", y.pass(1), 2);
        due("all of both", y.count(3), 21);
    }

    // "A cup that is full, and does not tip, keeps all its water, however much it is, but 9999 at most"
    private static void keepsTheMostWater() {
        int[] water = {10, 11, 500, 9900, 9998, 9999};
        for (int full : water) {
            CupFountain x = dry();
            x.turnLock(4);
            pour(x, 4, full);
            x.pass(1);
            due("keeps " + full, x.cup(4, 3), full);
            due("none goes into the basin of " + full, x.count(3), 0);
            x.pass(50);
            due("keeps on with " + full, x.cup(4, 3), full);
        }
    }

    // "the rest goes into the basin."
    private static void restGoesIntoTheBasin() {
        int[] had = {9998, 9999, 9998, 9999, 9901, 9900};
        int[] more = {1, 1, 2, 99, 99, 99};
        int[] rest = {0, 1, 1, 99, 1, 0};
        for (int i = 0; i < had.length; i++) {
            CupFountain x = dry();
            x.turnLock(0);
            pour(x, 0, had[i]);
            x.set(0, more[i]);
            x.pass(1);
            due("keeps of " + had[i] + " and " + more[i], x.cup(0, 3), had[i] + more[i] - rest[i]);
            due("the rest of " + had[i] + " and " + more[i], x.count(3), rest[i]);
            due("is not lost", x.count(4), 0);
        }
        CupFountain y = dry();
        y.turnLock(3);
        pour(y, 3, MOST_WATER);
        y.fill(2, 10);
        due("one spills into it", y.pass(1), 1);
        due("keeps the most", y.cup(3, 3), MOST_WATER);
        due("the rest is what was spilled", y.count(3), 10);
    }

    // "Each cup drips: it has less water by its leak, but 0 at least; that is lost."
    private static void dripsToNothing() {
        int[] water = {1, 5, 4, 9, 8, 10, 0};
        int[] leak = {1, 4, 5, 9, 9, 9, 9};
        int[] left = {0, 1, 0, 0, 0, 1, 0};
        for (int i = 0; i < water.length; i++) {
            CupFountain x = dry();
            x.setCup(5, 0, 99);
            x.setCup(5, 1, leak[i]);
            pour(x, 5, water[i]);
            x.pass(1);
            due(water[i] + " less " + leak[i], x.cup(5, 3), left[i]);
            due("lost of " + water[i], x.count(4), water[i] - left[i]);
            x.pass(10);
            due("lost of " + water[i] + " in the end", x.count(4), water[i]);
            due("nothing is in the basin", x.count(3), 0);
        }
    }

    // "3. Each cup drips": behind all that tips, and those that are shut too.
    private static void dripsAtTheEndOfTheTick() {
        CupFountain x = dry();
        for (int cup = 0; cup < 8; cup++) {
            x.setCup(cup, 1, 9);
        }
        x.fill(0, 10);
        due("10 is enough, as it drips behind", x.pass(1), 8);
        due("one that has tipped has nothing to drip", x.count(4), 0);
        x.turnLock(2);
        x.fill(1, 10);
        due("one before it tips", x.pass(1), 1);
        due("the shut one drips what just came", x.cup(2, 3), 1);
        due("lost", x.count(4), 9);
    }

    // "The tick is 1 more."
    private static void tickIsOneMore() {
        CupFountain x = new CupFountain();
        for (int tick = 1; tick <= 30; tick++) {
            x.pass(1);
            due("the tick", x.count(0), tick);
        }
        x.pass(99);
        due("99 more", x.count(0), 129);
    }

    // ---- hours

    // "A day has as many ticks as the setting 2 tells (1 to 240 ..); the hour of a tick is the tick modulo that."
    private static void daysComeRound() {
        for (int day = 1; day <= 240; day++) {
            CupFountain x = dry();
            due("the day " + day, x.set(2, day), day == 24 ? NONE : 24);
            passTo(x, day - 1);
            due("the last hour of " + day, x.count(1), day - 1);
            x.pass(1);
            due("comes round after " + day, x.count(1), 0);
            passTo(x, 2 * day - 1);
            due("the last hour again of " + day, x.count(1), day - 1);
            x.pass(1);
            due("comes round again after " + day, x.count(1), 0);
        }
        for (int day : beyond(1, 240)) {
            due("no day " + day, dry().set(2, day), BAD_VALUE);
        }
    }

    // "A day .. (.. 24 at first)"
    private static void dayAtFirst() {
        CupFountain x = dry();
        due("the day at first", x.count(12), 24);
        x.pass(23);
        due("23", x.count(1), 23);
        x.pass(1);
        due("24", x.count(1), 0);
    }

    // "A cup has an hour at which it is due to tip (0 to 239), or none"
    private static void hourOfACup() {
        for (int hour = 0; hour <= 239; hour++) {
            CupFountain x = dry();
            due("the hour " + hour, x.setHour(3, hour), 240);
            due("told as " + hour, x.cup(3, 4), hour);
            due("none again", x.setHour(3, -1), hour);
            due("told as none", x.cup(3, 4), NONE);
        }
        for (int hour : beyond(-1, 239)) {
            due("no hour " + hour, dry().setHour(3, hour), BAD_VALUE);
        }
    }

    // "A cup has an hour .. or none (at first)."
    private static void hourAtFirst() {
        for (int cup = 0; cup < 8; cup++) {
            due("none at first", dry().cup(cup, 4), NONE);
            due("none already", dry().setHour(cup, -1), NONE);
            due("so it has no guard", dry().guard(cup), NOT_POSSIBLE);
        }
    }

    // "As it tips in a tick, it is on time if the hour of the tick is its hour, early if it is less, late if it is greater"
    private static void onTimeEarlyLate() {
        times(24, 0, 0, 9);
        times(24, 0, 1, 10);
        times(24, 1, 0, 11);
        times(24, 11, 12, 10);
        times(24, 12, 12, 9);
        times(24, 13, 12, 11);
        times(24, 23, 23, 9);
        times(24, 22, 23, 10);
        times(24, 23, 22, 11);
        // The day comes round: the hour is less again.
        times(24, 24, 23, 10);
        times(24, 24, 0, 9);
        times(24, 25, 0, 11);
        times(24, 23, 24, 10);
        times(24, 24, 24, 10);
        times(1, 50, 0, 9);
        times(1, 50, 1, 10);
        times(240, 239, 239, 9);
        times(240, 238, 239, 10);
        times(240, 239, 238, 11);
        times(240, 240, 239, 10);
    }

    /** The cup 7 tips once, in this tick: just this one of 9 to 11 counts it. */
    private static void times(int day, int tick, int hour, int what) {
        CupFountain x = dry();
        x.set(2, day);
        passTo(x, tick);
        x.setHour(7, hour);
        x.fill(7, 10);
        due("it tips", x.pass(1), 1);
        for (int i = 9; i <= 11; i++) {
            due("day " + day + ", tick " + tick + ", hour " + hour + ", what " + i, x.cup(7, i), i == what ? 1 : 0);
        }
        due("on time of all", x.count(8), what == 9 ? 1 : 0);
    }

    // "one without an hour is never any of these."
    private static void withoutAnHour() {
        CupFountain x = new CupFountain();
        x.set(0, 10);
        x.setHour(1, 5);
        x.setHour(1, -1);
        due("all tip in each tick", x.pass(48), 8 * 48);
        for (int cup = 0; cup < 8; cup++) {
            due("it tips", x.cup(cup, 8), 48);
            for (int what = 9; what <= 11; what++) {
                due("without an hour " + what, x.cup(cup, what), 0);
            }
        }
        due("nor of all", x.count(8), 0);
    }

    // "A guard can be set for a cup that has an hour"
    private static void guardNeedsAnHour() {
        CupFountain x = dry();
        due("without", x.guard(7), NOT_POSSIBLE);
        due("none is set", x.cup(7, 6), 0);
        x.setHour(7, 0);
        due("with the hour 0", x.guard(7), 1);
        x.setHour(6, 239);
        due("with the hour 239", x.guard(6), 1);
        x.setHour(6, -1);
        due("without again", x.guard(6), NOT_POSSIBLE);
    }

    // "then its lock opens at the beginning of the tick of its hour"
    private static void guardOpensInItsHour() {
        for (int hour : new int[] {0, 1, 12, 22, 23}) {
            CupFountain x = dry();
            x.setHour(7, hour);
            x.fill(7, 10);
            x.guard(7);
            due("shut at once", x.cup(7, 5), 0);
            if (hour > 0) {
                due("shut till " + hour, x.pass(hour), 0);
            }
            due("open at " + hour, x.pass(1), 1);
            due("on time at " + hour, x.cup(7, 9), 1);
        }
    }

    // ".. and shuts as it has tipped"
    private static void guardShutsAsItHasTipped() {
        CupFountain x = dry();
        x.set(0, 10);
        x.setHour(0, 5);
        x.guard(0);
        due("once a day", x.pass(24), 8);
        due("the guard stays", x.cup(0, 6), 1);
        due("shut", x.cup(0, 5), 0);
        due("and once again", x.pass(24), 8);
        due("with the water of a day", x.cup(0, 3), (48 - 30) * 10);
    }

    // ".. or at the end of that tick."
    private static void guardShutsAtTheEndOfTheTick() {
        CupFountain x = dry();
        x.setHour(7, 5);
        x.guard(7);
        x.fill(7, 9);
        due("too little in its hour", x.pass(6), 0);
        due("shut behind it", x.cup(7, 5), 0);
        x.fill(7, 1);
        due("now it has to wait", x.pass(23), 0);
        due("for the next day", x.pass(1), 1);
    }

    // The hour of a guard comes round with the day.
    private static void guardOverMidnight() {
        CupFountain x = dry();
        passTo(x, 23);
        x.setHour(7, 0);
        x.guard(7);
        x.fill(7, 10);
        due("the last hour of the day", x.pass(1), 0);
        due("the first one of the next", x.pass(1), 1);
        CupFountain y = dry();
        y.set(2, 1);
        y.setHour(7, 0);
        y.guard(7);
        y.setCup(7, 0, 1);
        for (int tick = 0; tick < 5; tick++) {
            y.fill(7, 1);
            due("a day of one hour opens in each tick", y.pass(1), 1);
        }
    }

    // An hour that the day does not have does not come.
    private static void guardWhoseHourNeverComes() {
        CupFountain x = dry();
        x.setHour(7, 24);
        x.guard(7);
        x.fill(7, 10);
        due("24 of 24", x.pass(99), 0);
        x.set(2, 30);
        passTo(x, 3 * 30 + 24);
        due("24 of 30, not before", x.cup(7, 8), 0);
        due("24 of 30", x.pass(1), 1);
    }

    // ---- jets

    // "10 times its water, divided by its size, rounded down, 30 at most"
    private static void heightOfAJet() {
        int[] size = {1, 1, 1, 1, 2, 2, 2, 3, 3, 3, 3, 7, 7, 7, 10, 10, 10, 10, 10, 10, 10, 99, 99, 99, 99, 99, 99};
        int[] water = {1, 2, 3, 4, 2, 3, 7, 3, 4, 5, 8, 7, 13, 20, 10, 11, 19, 20, 29, 30, 31, 99, 108, 109, 296, 297, 9999};
        int[] height = {10, 20, 30, 30, 10, 15, 30, 10, 13, 16, 26, 10, 18, 28, 10, 11, 19, 20, 29, 30, 30, 10, 10, 11, 29, 30, 30};
        for (int i = 0; i < size.length; i++) {
            CupFountain x = dry();
            x.setCup(7, 0, size[i]);
            pour(x, 7, water[i]);
            due("no jet before", x.cup(7, 7), 0);
            x.pass(1);
            due("of the size " + size[i] + " with " + water[i], x.cup(7, 7), height[i]);
        }
    }

    // "it stands till the end of the next tick in which the cup does not tip."
    private static void jetStandsForOneTick() {
        CupFountain x = dry();
        x.setCup(7, 0, 1);
        x.fill(7, 3);
        x.pass(1);
        due("it stands", x.cup(7, 7), 30);
        x.setCup(7, 0, 50);
        x.fill(7, 20);
        due("whatever is done", x.cup(7, 7), 30);
        x.pass(1);
        due("till that tick's end", x.cup(7, 7), 0);
        x.setCup(7, 0, 10);
        x.pass(1);
        due("as it tips again", x.cup(7, 7), 20);
        x.fill(7, 11);
        x.pass(1);
        due("one tip behind the other", x.cup(7, 7), 11);
        x.turnLock(7);
        x.fill(7, 10);
        due("a shut one, till it does not tip", x.cup(7, 7), 11);
        x.pass(1);
        due("full and shut", x.cup(7, 7), 0);
    }

    // ".. of the next tick in which the cup does not tip": that cup, whatever the others do.
    private static void jetOfEachCup() {
        CupFountain x = dry();
        x.setCup(2, 2, BASIN);
        x.fill(2, 12);
        x.fill(7, 13);
        x.pass(1);
        due("one of two", x.cup(2, 7), 12);
        due("the other", x.cup(7, 7), 13);
        x.fill(7, 14);
        x.pass(1);
        due("the one that does not tip", x.cup(2, 7), 0);
        due("the one that tips", x.cup(7, 7), 14);

        CupFountain y = dry();
        y.setHour(7, 0);
        y.guard(7);
        y.fill(7, 15);
        y.pass(1);
        due("of one with a guard", y.cup(7, 7), 15);
        y.fill(7, 20);
        y.pass(1);
        due("that is held then", y.cup(7, 7), 0);
        passTo(y, 24);
        due("till its hour", y.cup(7, 7), 0);
        y.pass(1);
        due("in its hour", y.cup(7, 7), 20);
    }
}
