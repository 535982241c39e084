import java.util.Set;
import java.util.TreeSet;
import java.util.function.ToIntFunction;

/** The promises of the document, one after the other; what is due is told by its words alone. */
public final class PromisesTest extends Fountains {
    private static final int[] FAR_OFF = {Integer.MIN_VALUE, -2, 1000, Integer.MAX_VALUE};

    public static void main(String[] args) {
        promise1NewObject();
        promise2SetCup();
        promise3TurnLock();
        promise4SetHour();
        promise5Guard();
        promise5GuardInTicks();
        promise6Fill();
        promise7Set();
        promise8Pass();
        promise8Tick();
        promise8Basin();
        promise8MostWater();
        promise8LastTick();
        promise9Type();
        promise10ClearText();
        promise11Faults();
        promise11Perform();
        promise11AllOrNothing();
        promise12Stopped();
        promise12LastThing();
        promise13Undo();
        promise13UndoBringsAllBack();
        promise13UndoOfEachAct();
        promise14Keep();
        promise15Restore();
        promise15RestoreWhatIsSoAlready();
        promise16Cup();
        promise16Jet();
        promise16Times();
        promise17Reason();
        promise17Edges();
        promise18TipsIn();
        promise19TipsAt();
        promise20Starving();
        promise21BestSize();
        promise22IfTicks();
        promise23Highest();
        promise23OfTwo();
        promise24Count();
        promise24FullCups();
        promise24TextAndHistory();
        promise24AccountsAddUp();
        actsChangeNothingElse();
        whatIsToldChangesNothing();
        whatIsToldIsOfTheStateThatIs();
        checks.close("PromisesTest");
    }

    private static void promise1NewObject() {
        CupFountain x = new CupFountain();
        int[] counts = {0, 0, 0, 0, 0, 0, 0, 0, 0, 0, 3, 0, 24, 0, 0};
        for (int what = 0; what < counts.length; what++) {
            due("1: count(" + what + ")", x.count(what), counts[what]);
        }
        for (int cup = 0; cup < 8; cup++) {
            int[] told = {10, 0, cup + 1, 0, NONE, 1, 0, 0, 0, 0, 0, 0};
            for (int what = 0; what < told.length; what++) {
                due("1: cup(" + cup + ", " + what + ")", x.cup(cup, what), told[what]);
            }
        }
        due("1: undo()", x.undo(), NONE);
        due("1: restore()", x.restore(), NONE);
        due("1: stopped(0)", x.stopped(0), NONE);
        due("1: highest()", x.highest(), NONE);
        due("1: perform()", x.perform(), -100);
        CupFountain other = new CupFountain();
        x.pass(5);
        x.setCup(3, 0, 20);
        x.type('.');
        x.keep();
        due("1: another's tick", other.count(0), 0);
        due("1: another's size", other.cup(3, 0), 10);
        due("1: another's text", other.count(14), 0);
        due("1: another's snapshot", other.restore(), NONE);
    }

    private static void promise2SetCup() {
        CupFountain x = new CupFountain();
        due("2: size", x.setCup(2, 0, 99), 10);
        due("2: size again", x.setCup(2, 0, 99), NONE);
        due("2: size back", x.setCup(2, 0, 1), 99);
        due("2: size then", x.cup(2, 0), 1);
        due("2: size of the next", x.cup(3, 0), 10);
        due("2: leak", x.setCup(2, 1, 9), 0);
        due("2: leak again", x.setCup(2, 1, 9), NONE);
        due("2: leak back", x.setCup(2, 1, 0), 9);
        due("2: spills into the basin", x.setCup(2, 2, 8), 3);
        due("2: spills into it already", x.setCup(2, 2, 8), NONE);
        due("2: spills into the next", x.setCup(2, 2, 3), 8);
        due("2: spills into a further", x.setCup(2, 2, 7), 3);
        due("2: spills then", x.cup(2, 2), 7);
        due("2: acts are recorded", x.count(13), 4);

        CupFountain y = new CupFountain();
        for (int cup : new int[] {-1, 8, Integer.MIN_VALUE, Integer.MAX_VALUE}) {
            due("2: cup " + cup, y.setCup(cup, 0, 5), UNKNOWN);
            due("2: cup and which " + cup, y.setCup(cup, 3, 1000), UNKNOWN);
        }
        for (int which : new int[] {-1, 3, Integer.MIN_VALUE, Integer.MAX_VALUE}) {
            due("2: which " + which, y.setCup(0, which, 5), BAD_VALUE);
        }
        for (int value : FAR_OFF) {
            for (int which = 0; which < 3; which++) {
                due("2: value " + which + " " + value, y.setCup(0, which, value), BAD_VALUE);
            }
        }
        due("2: size 0", y.setCup(0, 0, 0), BAD_VALUE);
        due("2: size 100", y.setCup(0, 0, 100), BAD_VALUE);
        due("2: leak -1", y.setCup(0, 1, -1), BAD_VALUE);
        due("2: leak 10", y.setCup(0, 1, 10), BAD_VALUE);
        due("2: spills into itself", y.setCup(4, 2, 4), BAD_VALUE);
        due("2: spills into a lower", y.setCup(4, 2, 3), BAD_VALUE);
        due("2: spills into 9", y.setCup(4, 2, 9), BAD_VALUE);
        due("2: spills as it is", y.setCup(4, 2, 5), NONE);
        due("2: cup 7 into the basin", y.setCup(7, 2, 8), NONE);
        due("2: errors and NONE record nothing", y.count(13), 0);
        due("2: size 1 is a size", y.setCup(7, 0, 1), 10);
    }

    private static void promise3TurnLock() {
        CupFountain x = new CupFountain();
        due("3: shut", x.turnLock(0), 0);
        due("3: it is shut", x.cup(0, 5), 0);
        due("3: another is open", x.cup(1, 5), 1);
        x.pass(4);
        due("3: holds its water", x.cup(0, 3), 12);
        due("3: open", x.turnLock(0), 1);
        due("3: it is open", x.cup(0, 5), 1);
        due("3: tips then", x.pass(1), 8);
        due("3: recorded", x.count(13), 4);
        due("3: -1", x.turnLock(-1), UNKNOWN);
        due("3: 8", x.turnLock(8), UNKNOWN);
        x.setHour(7, 5);
        x.guard(7);
        due("3: with a guard", x.turnLock(7), NOT_POSSIBLE);
        due("3: with a guard it stays shut", x.cup(7, 5), 0);
        x.guard(7);
        due("3: without it again", x.turnLock(7), 0);
        due("3: shut by hand while it has an hour", x.cup(7, 6), 0);
    }

    private static void promise4SetHour() {
        CupFountain x = new CupFountain();
        due("4: none already", x.setHour(1, -1), NONE);
        due("4: first", x.setHour(1, 0), 240);
        due("4: again", x.setHour(1, 0), NONE);
        due("4: another", x.setHour(1, 239), 0);
        due("4: told", x.cup(1, 4), 239);
        due("4: of another cup", x.cup(2, 4), NONE);
        due("4: none", x.setHour(1, -1), 239);
        due("4: told as none", x.cup(1, 4), NONE);
        due("4: recorded", x.count(13), 3);
        for (int cup : new int[] {-1, 8, Integer.MIN_VALUE, Integer.MAX_VALUE}) {
            due("4: cup " + cup, x.setHour(cup, 240), UNKNOWN);
        }
        for (int hour : new int[] {240, -2, Integer.MIN_VALUE, Integer.MAX_VALUE}) {
            due("4: hour " + hour, x.setHour(1, hour), BAD_VALUE);
        }

        CupFountain y = new CupFountain();
        y.turnLock(3);
        due("4: none already, and shut", y.setHour(3, -1), NONE);
        due("4: so it stays shut", y.cup(3, 5), 0);
        y.setHour(3, 7);
        due("4: an hour opens nothing", y.cup(3, 5), 0);
        y.setHour(3, 8);
        due("4: another hour opens nothing", y.cup(3, 5), 0);
        y.setHour(3, -1);
        due("4: none opens what was shut by hand", y.cup(3, 5), 1);

        CupFountain z = new CupFountain();
        z.setHour(0, 5);
        z.guard(0);
        z.setHour(0, 6);
        due("4: another hour keeps the guard", z.cup(0, 6), 1);
        due("4: and the lock shut", z.cup(0, 5), 0);
        z.setHour(0, -1);
        due("4: none takes the guard off", z.cup(0, 6), 0);
        due("4: and opens the lock", z.cup(0, 5), 1);
        z.setHour(0, 6);
        due("4: the guard does not come back", z.cup(0, 6), 0);
    }

    private static void promise5Guard() {
        CupFountain x = new CupFountain();
        due("5: no hour", x.guard(0), NOT_POSSIBLE);
        due("5: -1", x.guard(-1), UNKNOWN);
        due("5: 8", x.guard(8), UNKNOWN);
        due("5: nothing is recorded", x.count(13), 0);
        x.setHour(0, 5);
        due("5: set", x.guard(0), 1);
        due("5: its lock is shut", x.cup(0, 5), 0);
        due("5: it is told", x.cup(0, 6), 1);
        due("5: off", x.guard(0), 0);
        due("5: its lock is open", x.cup(0, 5), 1);
        due("5: it is told off", x.cup(0, 6), 0);
        due("5: recorded", x.count(13), 3);
        x.turnLock(0);
        x.guard(0);
        due("5: set on a shut one", x.cup(0, 5), 0);
        x.guard(0);
        due("5: off opens what was shut by hand", x.cup(0, 5), 1);
    }

    private static void promise5GuardInTicks() {
        CupFountain x = new CupFountain();
        x.setHour(0, 5);
        x.guard(0);
        due("5: before its hour", x.pass(5), 0);
        due("5: its water", x.cup(0, 3), 15);
        due("5: at its hour", x.pass(1), 8);
        due("5: shut again", x.cup(0, 5), 0);
        due("5: the guard stays", x.cup(0, 6), 1);
        due("5: on time", x.cup(0, 9), 1);
        due("5: till its hour comes again", x.pass(23), 0);
        due("5: once a day", x.pass(1), 8);

        CupFountain y = new CupFountain();
        y.setHour(0, 2);
        y.guard(0);
        due("5: too little at its hour", y.pass(3), 0);
        due("5: shut at the end of the tick", y.cup(0, 5), 0);
        due("5: full, but held", y.pass(23), 0);
        due("5: next day", y.pass(1), 8);
        due("5: with a day's water", y.cup(0, 7), 30);

        CupFountain z = new CupFountain();
        z.set(2, 5);
        z.setHour(0, 5);
        z.guard(0);
        due("5: an hour that never comes", z.pass(99), 0);
    }

    private static void promise6Fill() {
        CupFountain x = dry();
        due("6: 1", x.fill(7, 1), 1);
        due("6: 99", x.fill(7, 99), 100);
        due("6: told", x.cup(7, 3), 100);
        due("6: by hand", x.count(6), 100);
        due("6: recorded", x.count(13), 3);
        for (int cup : new int[] {-1, 8, Integer.MIN_VALUE, Integer.MAX_VALUE}) {
            due("6: cup " + cup, x.fill(cup, 0), UNKNOWN);
        }
        for (int water : new int[] {0, 100, -1, Integer.MIN_VALUE, Integer.MAX_VALUE}) {
            due("6: water " + water, x.fill(7, water), BAD_VALUE);
        }
        due("6: an error fills nothing", x.count(6), 100);

        CupFountain y = dry();
        pour(y, 3, 9900);
        due("6: nearly the most", y.cup(3, 3), 9900);
        due("6: the most", y.fill(3, 99), 9999);
        due("6: one more", y.fill(3, 1), FULL);
        due("6: out of range comes first", y.fill(3, 100), BAD_VALUE);
        due("6: it has the most", y.cup(3, 3), 9999);
        due("6: all of it by hand", y.count(6), 9999);
        due("6: it tips with all", y.pass(1), 5);
        due("6: into the basin", y.count(3), 9999);
    }

    private static void promise7Set() {
        CupFountain x = new CupFountain();
        due("7: spring", x.set(0, 99), 3);
        due("7: spring again", x.set(0, 99), NONE);
        due("7: spring dry", x.set(0, 0), 99);
        due("7: back", x.set(1, 99), 0);
        due("7: back again", x.set(1, 99), NONE);
        due("7: back none", x.set(1, 0), 99);
        due("7: day", x.set(2, 240), 24);
        due("7: day again", x.set(2, 240), NONE);
        due("7: day of 1", x.set(2, 1), 240);
        due("7: told spring", x.count(10), 0);
        due("7: told back", x.count(11), 0);
        due("7: told day", x.count(12), 1);
        due("7: recorded", x.count(13), 4);
        for (int which : new int[] {-1, 3, Integer.MIN_VALUE, Integer.MAX_VALUE}) {
            due("7: which " + which, x.set(which, -1), UNKNOWN);
        }
        for (int which = 0; which < 3; which++) {
            due("7: -1 for " + which, x.set(which, -1), BAD_VALUE);
            due("7: 241 for " + which, x.set(which, 241), BAD_VALUE);
            due("7: greatest for " + which, x.set(which, Integer.MAX_VALUE), BAD_VALUE);
        }
        due("7: 100 for spring", x.set(0, 100), BAD_VALUE);
        due("7: 100 for back", x.set(1, 100), BAD_VALUE);
        due("7: 0 for the day", x.set(2, 0), BAD_VALUE);

        CupFountain y = new CupFountain();
        y.pass(50);
        due("7: the hour", y.count(1), 2);
        y.set(2, 7);
        due("7: the hour of another day", y.count(1), 1);
    }

    private static void promise8Pass() {
        CupFountain x = new CupFountain();
        due("8: none tips", x.pass(3), 0);
        due("8: all tip", x.pass(1), 8);
        due("8: 99", x.pass(99), 24 * 8);
        due("8: the tick", x.count(0), 103);
        due("8: recorded", x.count(13), 3);
        for (int ticks : new int[] {0, 100, -1, Integer.MIN_VALUE, Integer.MAX_VALUE}) {
            due("8: ticks " + ticks, x.pass(ticks), BAD_VALUE);
        }
        due("8: an error passes nothing", x.count(0), 103);
        due("8: nor records", x.count(13), 3);
    }

    private static void promise8Tick() {
        CupFountain x = dry();
        x.fill(0, 9);
        due("8: one less than its size", x.pass(1), 0);
        x.fill(0, 1);
        x.setCup(0, 2, 7);
        x.setCup(7, 0, 11);
        due("8: just its size", x.pass(1), 1);
        due("8: spills past the others", x.cup(7, 3), 10);
        due("8: nothing is left", x.cup(0, 3), 0);
        x.fill(5, 10);
        due("8: a chain in one tick", x.pass(1), 3);
        due("8: all of it in the basin", x.count(3), 20);

        CupFountain y = dry();
        y.fill(2, 20);
        y.setCup(2, 1, 9);
        y.setCup(3, 1, 7);
        y.setCup(3, 0, 99);
        y.setCup(5, 1, 5);
        y.fill(5, 3);
        due("8: it tips before it drips", y.pass(1), 1);
        due("8: what came in drips in the same tick", y.cup(3, 3), 13);
        due("8: 0 at least", y.cup(5, 3), 0);
        due("8: lost what there was", y.count(4), 10);
        y.pass(2);
        due("8: to the last", y.cup(3, 3), 0);
        due("8: lost all", y.count(4), 23);

        CupFountain z = new CupFountain();
        z.turnLock(4);
        z.pass(8);
        due("8: full and shut", z.cup(4, 3), 24);
        due("8: those behind it are dry", z.cup(5, 8), 0);
        due("8: those before it go on", z.cup(3, 8), 2);
        due("8: from the spring", z.count(5), 24);
    }

    private static void promise8Basin() {
        CupFountain x = dry();
        x.fill(7, 50);
        x.set(1, 20);
        x.pass(1);
        due("8: the basin", x.count(3), 50);
        x.setCup(0, 0, 99);
        x.pass(1);
        due("8: as much as is set comes back", x.count(3), 30);
        due("8: into the cup 0", x.cup(0, 3), 20);
        x.pass(1);
        due("8: again", x.count(3), 10);
        x.pass(1);
        due("8: all that is in it", x.count(3), 0);
        due("8: is less", x.cup(0, 3), 50);
        due("8: it is not from the spring", x.count(5), 0);
        x.pass(1);
        due("8: none is left to come", x.cup(0, 3), 50);

        CupFountain y = new CupFountain();
        y.set(0, 10);
        y.set(1, 99);
        y.pass(1);
        due("8: what tips into the basin", y.count(3), 10);
        due("8: comes back in the next tick", y.cup(0, 3), 0);
        y.setCup(0, 0, 30);
        y.pass(1);
        due("8: besides the spring", y.cup(0, 3), 20);
    }

    private static void promise8MostWater() {
        CupFountain x = new CupFountain();
        x.turnLock(0);
        pour(x, 0, MOST_WATER);
        x.pass(1);
        due("8: the most that a full one keeps", x.cup(0, 3), 9999);
        due("8: the rest is in the basin", x.count(3), 3);
        x.setCup(0, 1, 9);
        x.pass(1);
        due("8: the rest is gone before it drips", x.count(3), 6);
        due("8: it drips from the most", x.cup(0, 3), 9990);

        CupFountain y = dry();
        y.turnLock(2);
        pour(y, 2, MOST_WATER);
        pour(y, 1, MOST_WATER);
        due("8: one tips into a full one", y.pass(1), 1);
        due("8: that keeps the most", y.cup(2, 3), 9999);
        due("8: the basin has the rest", y.count(3), 9999);

        CupFountain z = dry();
        pour(z, 2, MOST_WATER);
        pour(z, 1, MOST_WATER);
        due("8: one that tips spills all", z.pass(1), 7);
        due("8: of it nothing is kept", z.count(3), 2 * 9999);
    }

    private static void promise8LastTick() {
        CupFountain x = atTheLastTicks(99900);
        due("8: just as many as there are", x.pass(99), 0);
        due("8: to the last at once", x.count(0), 99999);
        due("8: beyond", x.pass(1), FULL);
        due("8: far beyond", x.pass(99), FULL);
        due("8: out of range comes first", x.pass(100), BAD_VALUE);
        due("8: nothing passed", x.count(0), 99999);
        due("8: its hour", x.count(1), 99999 % 24);

        CupFountain y = atTheLastTicks(99990);
        y.set(0, 10);
        due("8: too far", y.pass(10), FULL);
        due("8: nothing tips", y.count(7), 0);
        due("8: to the last", y.pass(9), 9 * 8);
        due("8: the last", y.count(0), 99999);
        due("8: what is told looks beyond", y.tipsIn(0), 1);
        due("8: and in what hour", y.tipsAt(0), 99999 % 24);

        CupFountain z = atTheLastTicks(99999 - 20);
        due("8: a plan too far", perform(z, ".9;.9;.2;.1"), NOT_POSSIBLE);
        due("8: nothing of it passed", z.count(0), 99999 - 20);
        due("8: stopped there", z.stopped(0), 3);
        due("8: as it is full", z.stopped(1), FULL);
        due("8: a plan just to the last", perform(z, ".9;.9;.2"), 3);
        due("8: passed", z.count(0), 99999);
    }

    private static void promise9Type() {
        CupFountain x = new CupFountain();
        due("9: first", x.type('h'), 1);
        due("9: second", x.type((char) 0), 2);
        due("9: third", x.type((char) 0xFFFF), 3);
        for (int i = 4; i <= 60; i++) {
            due("9: " + i, x.type(';'), i);
        }
        due("9: one more", x.type('x'), FULL);
        due("9: it stays", x.count(14), 60);
        due("9: no act", x.count(13), 0);
        x.clearText();
        due("9: again", x.type('x'), 1);
        due("9: the text is read", x.perform(), -100);
        x.clearText();
        due("9: a sign far off", perform(x, "." + (char) 0x0131), -101);
        due("9: another digit", perform(x, "." + (char) 0x0661), -101);
    }

    private static void promise10ClearText() {
        CupFountain x = new CupFountain();
        due("10: empty", x.clearText(), 0);
        write(x, "g0;");
        due("10: three", x.clearText(), 3);
        due("10: then empty", x.count(14), 0);
        due("10: again", x.clearText(), 0);
        due("10: no act", x.count(13), 0);
        due("10: the text is gone", x.perform(), -100);
    }

    private static void promise11Faults() {
        String[] texts = {"", "x", "h", "h8", "h-", "h0", "h0=5", "h0@", "h0@-", "h0@05", "h0@240", "h0@241", "h0@249", "h0@300",
            "h0@2390", "h0@1000", "h0@5 ", "s", "s9", "s0@5", "s0=", "s0=0", "s0=01", "s0=100", "s0=99;", "f", "f8",
            "f0", "f0=1", "f0+", "f0+0", "f0+100", "f0+99g", "g", "g8", "g0.", "g0;", "g0;;", ".", ".0", ".100",
            ".99.", ".1;.1;.1;", ".1;.1;x", ";", "H0@5", "h 0@5", "s0=9;s0=", "h0@0;", "h0@00", ".a"};
        int[] faults = {0, 0, 1, 1, 1, 2, 2, 3, 3, 4, 5, 5, 5, 5,
            6, 6, 4, 1, 1, 2, 3, 3, 3, 5, 6, 1, 1,
            2, 2, 3, 3, 5, 5, 1, 1, 2, 3, 3, 1, 1, 3,
            3, 9, 6, 0, 0, 1, 8, 5, 4, 1};
        due("11: as many faults as texts", faults.length, texts.length);
        for (int i = 0; i < texts.length && i < faults.length; i++) {
            CupFountain x = new CupFountain();
            due("11: \"" + texts[i] + "\"", perform(x, texts[i]), -100 - faults[i]);
            due("11: is no stop: \"" + texts[i] + "\"", x.stopped(0), NONE);
            due("11: changes nothing: \"" + texts[i] + "\"", x.count(0) + x.count(13) + x.count(6), 0);
        }
        CupFountain full = new CupFountain();
        due("11: a long one that ends too early",
            perform(full, ".1;.1;.1;.1;.1;.1;.1;.1;.1;.1;.1;.1;.1;.1;.1;.1;.1;.1;.1;.1;"), -160);
        due("11: a fault at its end",
            perform(full, ".1;.1;.1;.1;.1;.1;.1;.1;.1;.1;.1;.1;.1;.1;.1;.1;.1;.1;.1;.1x"), -159);
        due("11: a long one", perform(full, ".1;.1;.1;.1;.1;.1;.1;.1;.1;.1;.1;.1;.1;.1;.1;.1;.1;.1;.1;.10"), 20);
        due("11: its ticks", full.count(0), 29);
    }

    private static void promise11Perform() {
        CupFountain x = new CupFountain();
        due("11: an hour", perform(x, "h7@239"), 1);
        due("11: it is set", x.cup(7, 4), 239);
        due("11: the hour 0", perform(x, "h7@0"), 1);
        due("11: it is set to 0", x.cup(7, 4), 0);
        due("11: a guard", perform(x, "g7"), 1);
        due("11: it is set for it", x.cup(7, 6), 1);
        due("11: a guard again", perform(x, "g7"), 1);
        due("11: it is taken off", x.cup(7, 6), 0);
        due("11: a size", perform(x, "s6=99;s5=1"), 2);
        due("11: it is 99", x.cup(6, 0), 99);
        due("11: it is 1", x.cup(5, 0), 1);
        due("11: water", perform(x, "f4+99;f4+1"), 2);
        due("11: it is filled", x.cup(4, 3), 100);
        due("11: by hand", x.count(6), 100);
        due("11: ticks", perform(x, ".99;.1"), 2);
        due("11: they pass", x.count(0), 100);

        CupFountain y = new CupFountain();
        due("11: things in their order", perform(y, "f0+10;.1;s0=20;f0+10;.1"), 5);
        due("11: as if called", y.cup(0, 8), 1);
        due("11: with the size then", y.cup(0, 3), 13);
        due("11: one act", y.count(13), 1);
        due("11: the text stays", y.count(14), 23);
        due("11: once more", y.perform(), 5);
        due("11: two acts", y.count(13), 2);
        y.undo();
        due("11: undone at once", y.count(0), 2);
        due("11: the size is back too", y.undo(), 0);
        due("11: at the beginning", y.cup(0, 0), 10);
        due("11: the text is no part of a state", y.count(14), 23);

        CupFountain z = new CupFountain();
        due("11: what is so already does not stop it", perform(z, "s0=10;h0@5;h0@5;s0=12"), 4);
        due("11: nor what comes behind", z.cup(0, 0), 12);
        due("11: only what is so already", perform(z, "s0=12"), 1);
        due("11: is an act too", z.count(13), 2);
    }

    private static void promise11AllOrNothing() {
        CupFountain x = new CupFountain();
        x.pass(2);
        due("11: no hour for a guard", perform(x, "s0=5;f0+7;.9;g1;s1=3"), NOT_POSSIBLE);
        due("11: the size is as it was", x.cup(0, 0), 10);
        due("11: the water is as it was", x.cup(0, 3), 6);
        due("11: the tick is as it was", x.count(0), 2);
        due("11: nothing is filled", x.count(6), 0);
        due("11: nothing came", x.count(5), 6);
        due("11: nothing is recorded", x.count(13), 1);
        due("11: its number", x.stopped(0), 3);
        due("11: its error", x.stopped(1), NOT_POSSIBLE);
        due("11: an hour in the same plan", perform(x, "h1@5;g1"), 2);
        due("11: undone as one", x.undo(), 1);
        due("11: without an hour", x.cup(1, 4), NONE);
    }

    private static void promise12Stopped() {
        CupFountain x = dry();
        due("12: nothing yet", x.stopped(0), NONE);
        due("12: nothing yet", x.stopped(1), NONE);
        due("12: out of range", x.stopped(2), BAD_VALUE);
        due("12: out of range", x.stopped(-1), BAD_VALUE);
        perform(x, "g0");
        due("12: the first", x.stopped(0), 0);
        due("12: its error", x.stopped(1), NOT_POSSIBLE);
        pour(x, 0, MOST_WATER);
        perform(x, "s1=5;f0+1;g0");
        due("12: the latest", x.stopped(0), 1);
        due("12: its error", x.stopped(1), FULL);
        due("12: a fault is no stop", perform(x, "g0;"), -103);
        due("12: so it stays", x.stopped(0), 1);
        due("12: one that is done", perform(x, "s0=5"), 1);
        due("12: is none either", x.stopped(1), FULL);
        x.undo();
        due("12: it is no part of a state", x.stopped(0), 1);
        due("12: out of range still", x.stopped(2), BAD_VALUE);
        due("12: far out of range", x.stopped(Integer.MIN_VALUE), BAD_VALUE);
        due("12: far out of range", x.stopped(Integer.MAX_VALUE), BAD_VALUE);
    }

    private static void promise12LastThing() {
        CupFountain x = dry();
        String most = ".1;.1;.1;.1;.1;.1;.1;.1;.1;.1;.1;.1;.1;.1;.1;.1;.1;.1;.1;g0";
        due("12: the last of as many as fit in", perform(x, most), NOT_POSSIBLE);
        due("12: its number", x.stopped(0), 19);
        due("12: its error", x.stopped(1), NOT_POSSIBLE);
        due("12: no tick of it passed", x.count(0), 0);
        x.setHour(0, 30);
        due("12: with an hour", x.perform(), 20);
        due("12: the latest stays", x.stopped(0), 19);
    }

    private static void promise13Undo() {
        CupFountain x = new CupFountain();
        due("13: empty", x.undo(), NONE);
        for (int size = 11; size <= 16; size++) {
            x.setCup(0, 0, size);
        }
        due("13: four are kept", x.count(13), 4);
        for (int left = 3; left >= 0; left--) {
            due("13: left", x.undo(), left);
            due("13: the size", x.cup(0, 0), 12 + left);
            due("13: told as left", x.count(13), left);
        }
        due("13: the oldest are dropped", x.undo(), NONE);
        due("13: so it stays", x.cup(0, 0), 12);
        x.setCup(0, 0, 50);
        x.setCup(0, 0, 60);
        due("13: after undoing", x.undo(), 1);
        x.setCup(0, 0, 70);
        due("13: others are recorded", x.undo(), 1);
        due("13: in its place", x.cup(0, 0), 50);
        due("13: the first", x.undo(), 0);
        due("13: as it was", x.cup(0, 0), 12);
    }

    private static void promise13UndoBringsAllBack() {
        for (int act = 0; act < 8; act++) {
            CupFountain x = inUse();
            int[] told = all(x);
            checks.holds("13: it is an act: " + act, doAnother(x, act) >= 0);
            due("13: undone", x.undo(), 3);
            same("13: the act " + act + " on one in use", x, told);
        }
    }

    private static CupFountain inUse() {
        CupFountain x = new CupFountain();
        perform(x, "h0@3;g0;h2@20;f3+5");
        x.setCup(0, 1, 1);
        x.setCup(7, 1, 2);
        x.setCup(5, 2, 7);
        x.turnLock(6);
        x.set(1, 2);
        x.set(2, 20);
        x.pass(30);
        return x;
    }

    private static int doAnother(CupFountain x, int act) {
        switch (act) {
            case 0:
                return x.pass(30);
            case 1:
                return perform(x, "s0=1;h0@7;g0;f7+99;.40");
            case 2:
                return x.turnLock(6);
            case 3:
                return x.set(0, 9);
            case 4:
                return x.setHour(0, -1);
            case 5:
                return x.setCup(5, 2, 8);
            case 6:
                return x.set(1, 7);
            default:
                return x.guard(2);
        }
    }

    /** Each act behind another one: what comes back is what was just before it. */
    private static void promise13UndoOfEachAct() {
        for (int act = 0; act < 9; act++) {
            CupFountain x = new CupFountain();
            x.setHour(2, 4);
            x.keep();
            x.pass(act + 1);
            int[] told = all(x);
            checks.holds("13: it is an act: " + act, doAct(x, act) >= 0);
            due("13: recorded: " + act, x.count(13), 3);
            due("13: undone: " + act, x.undo(), 2);
            same("13: the act " + act, x, told);
        }
    }

    private static int doAct(CupFountain x, int act) {
        switch (act) {
            case 0:
                return x.setCup(1, 0, 20);
            case 1:
                return x.turnLock(1);
            case 2:
                return x.setHour(2, -1);
            case 3:
                return x.guard(2);
            case 4:
                return x.fill(1, 5);
            case 5:
                return x.set(2, 9);
            case 6:
                return x.pass(9);
            case 7:
                return perform(x, "g2;.9");
            default:
                return x.restore();
        }
    }

    private static void promise14Keep() {
        CupFountain x = new CupFountain();
        due("14: the tick", x.keep(), 0);
        x.pass(7);
        due("14: the tick then", x.keep(), 7);
        due("14: no act", x.count(13), 1);
        x.pass(5);
        due("14: in place of the one that was", x.restore(), 7);
        x.undo();
        x.undo();
        x.undo();
        due("14: it is no part of a state", x.count(0), 0);
        due("14: so it stays", x.restore(), 7);
    }

    private static void promise15Restore() {
        CupFountain x = new CupFountain();
        due("15: none", x.restore(), NONE);
        due("15: nothing is recorded", x.count(13), 0);
        perform(x, "h1@3;g1;s2=7;f2+5;.13");
        x.set(1, 4);
        int[] told = all(x);
        x.keep();
        perform(x, "h1@9;s2=8;f3+50;.40");
        write(x, "abc");
        due("15: the tick", x.restore(), 13);
        same("15: all of it", x, told);
        due("15: the text is no part of it", x.count(14), 3);
        due("15: an act", x.count(13), 4);
        x.pass(9);
        due("15: it stays", x.restore(), 13);
        same("15: all of it again", x, told);
        x.undo();
        due("15: undone", x.count(0), 22);
    }

    private static void promise15RestoreWhatIsSoAlready() {
        CupFountain x = dry();
        x.pass(7);
        x.keep();
        due("15: as it is already", x.restore(), 7);
        due("15: is an act", x.count(13), 3);
        due("15: undone", x.undo(), 2);
        due("15: it is as it was", x.count(0), 7);
        CupFountain y = dry();
        y.keep();
        due("15: the tick 0", y.restore(), 0);
        due("15: is no error and not NONE", y.count(13), 2);
    }

    private static void promise16Cup() {
        CupFountain x = new CupFountain();
        for (int cup : new int[] {-1, 8, Integer.MIN_VALUE, Integer.MAX_VALUE}) {
            due("16: cup " + cup, x.cup(cup, 12), UNKNOWN);
        }
        for (int what : new int[] {-1, 12, Integer.MIN_VALUE, Integer.MAX_VALUE}) {
            due("16: what " + what, x.cup(0, what), BAD_VALUE);
        }
        x.setCup(4, 0, 21);
        x.setCup(4, 1, 2);
        x.setCup(4, 2, 6);
        x.setHour(4, 11);
        x.fill(4, 50);
        x.guard(4);
        int[] told = {21, 2, 6, 50, 11, 0, 1, 0, 0, 0, 0, 0};
        for (int what = 0; what < told.length; what++) {
            due("16: what " + what, x.cup(4, what), told[what]);
        }
        due("16: the hour 0 is an hour", x.setHour(5, 0), 240);
        due("16: and told", x.cup(5, 4), 0);
    }

    private static void promise16Jet() {
        CupFountain x = dry();
        x.setCup(0, 0, 7);
        x.setCup(0, 2, 8);
        x.fill(0, 13);
        x.pass(1);
        due("16: rounded down", x.cup(0, 7), 18);
        x.setCup(0, 0, 99);
        due("16: it stands", x.cup(0, 7), 18);
        x.pass(1);
        due("16: till the next tick's end", x.cup(0, 7), 0);
        x.setCup(0, 0, 10);
        x.fill(0, 29);
        x.pass(1);
        due("16: 29", x.cup(0, 7), 29);
        x.fill(0, 30);
        x.pass(1);
        due("16: the next tip raises it anew", x.cup(0, 7), 30);
        x.fill(0, 98);
        x.pass(1);
        due("16: the most", x.cup(0, 7), 30);
        x.fill(0, 10);
        x.pass(1);
        due("16: the next is lower", x.cup(0, 7), 10);
        x.turnLock(0);
        x.fill(0, 10);
        x.pass(1);
        due("16: one that is held has none", x.cup(0, 7), 0);
    }

    private static void promise16Times() {
        CupFountain x = new CupFountain();
        x.set(0, 10);
        x.setHour(1, 10);
        x.pass(24);
        due("16: tips", x.cup(1, 8), 24);
        due("16: on time", x.cup(1, 9), 1);
        due("16: early", x.cup(1, 10), 10);
        due("16: late", x.cup(1, 11), 13);
        due("16: one without an hour", x.cup(0, 8), 24);
        due("16: never on time", x.cup(0, 9) + x.cup(0, 10) + x.cup(0, 11), 0);
        x.setHour(1, 0);
        x.pass(24);
        due("16: on time at 0", x.cup(1, 9), 2);
        due("16: never before 0", x.cup(1, 10), 10);
        due("16: late after 0", x.cup(1, 11), 36);
        x.setHour(1, -1);
        x.pass(24);
        due("16: then none of these", x.cup(1, 9) + x.cup(1, 10) + x.cup(1, 11), 48);
        due("16: tips of all", x.cup(1, 8), 72);
    }

    private static void promise17Reason() {
        CupFountain x = new CupFountain();
        due("17: -1", x.reason(-1), UNKNOWN);
        due("17: 8", x.reason(8), UNKNOWN);
        due("17: far off", x.reason(Integer.MIN_VALUE), UNKNOWN);
        due("17: too little", x.reason(0), 3);
        x.pass(3);
        due("17: it tips", x.reason(0), 0);
        due("17: as one before it tips", x.reason(7), 0);
        x.turnLock(3);
        due("17: shut", x.reason(3), 2);
        due("17: behind one that is shut", x.reason(4), 3);
        x.setHour(5, 4);
        x.guard(5);
        due("17: not its hour", x.reason(5), 1);
        x.pass(1);
        due("17: its hour, but too little", x.reason(5), 3);
        x.fill(5, 10);
        due("17: its hour", x.reason(5), 0);
        x.pass(1);
        due("17: its hour is over", x.reason(5), 1);
        due("17: shut without water", dryAndShut().reason(6), 2);
        x.set(2, 1);
        due("17: its hour never comes", x.reason(5), 1);
    }

    private static void promise17Edges() {
        CupFountain x = dry();
        x.fill(7, 9);
        due("17: one less than its size", x.reason(7), 3);
        x.fill(7, 1);
        due("17: its size", x.reason(7), 0);
        x.setCup(7, 1, 9);
        due("17: it drips behind", x.reason(7), 0);
        x.setCup(7, 0, 11);
        due("17: one more than its water", x.reason(7), 3);
        x.set(0, 1);
        x.setCup(0, 0, 1);
        x.setCup(0, 2, 7);
        due("17: with what will be spilled into it", x.reason(7), 0);
        x.turnLock(0);
        due("17: not with what is held", x.reason(7), 3);

        CupFountain y = dry();
        passTo(y, 23);
        y.setHour(7, 0);
        y.guard(7);
        due("17: the guard is told ahead of the lock and the water", y.reason(7), 1);
        y.fill(7, 10);
        due("17: the hour before midnight", y.reason(7), 1);
        y.pass(1);
        due("17: midnight", y.reason(7), 0);
        y.pass(1);
        due("17: the hour behind midnight", y.reason(7), 1);
        y.guard(7);
        due("17: without the guard", y.reason(7), 3);
        y.turnLock(7);
        due("17: the lock is told ahead of the water", y.reason(7), 2);
        y.fill(7, 10);
        due("17: and with water", y.reason(7), 2);
        y.setHour(7, 1);
        due("17: also in its hour", y.reason(7), 2);

        CupFountain z = dry();
        z.fill(7, 30);
        z.set(1, 10);
        z.setCup(0, 0, 10);
        due("17: nothing comes back yet", z.reason(0), 3);
        z.pass(1);
        due("17: what comes back counts", z.reason(0), 0);
    }

    private static CupFountain dryAndShut() {
        CupFountain x = dry();
        x.turnLock(6);
        return x;
    }

    private static void promise18TipsIn() {
        CupFountain x = new CupFountain();
        due("18: -1", x.tipsIn(-1), UNKNOWN);
        due("18: 8", x.tipsIn(8), UNKNOWN);
        due("18: four", x.tipsIn(0), 4);
        x.pass(3);
        due("18: one", x.tipsIn(7), 1);
        x.pass(1);
        due("18: the next", x.tipsIn(7), 4);
        x.turnLock(2);
        due("18: never", x.tipsIn(2), NONE);
        due("18: nor behind it", x.tipsIn(3), NONE);

        CupFountain y = dry();
        y.set(2, 240);
        y.setHour(0, 19);
        y.guard(0);
        y.pass(99);
        y.fill(0, 10);
        due("18: held till the next day", y.tipsIn(0), 240 + 19 - 99 + 1);

        y.turnLock(7);
        due("18: held by hand, no day opens it", y.tipsIn(7), NONE);
        y.pass(99);
        due("18: a day less those that passed", y.tipsIn(0), 240 + 19 - 198 + 1);

        CupFountain w = dry();
        w.set(0, 1);
        w.setCup(0, 0, 99);
        due("18: 99 ticks for 99", w.tipsIn(0), 99);
        w.setCup(0, 1, 1);
        due("18: never, as all drips", w.tipsIn(0), NONE);
        w.setCup(0, 0, 1);
        due("18: in each tick, as it drips behind", w.tipsIn(0), 1);

        CupFountain z = edgeOf500(60);
        due("18: just within 500", z.tipsIn(7), 500);
        due("18: ten ticks beyond", edgeOf500(61).tipsIn(7), NONE);
        CupFountain beyond = edgeOf501();
        due("18: one tick beyond", beyond.tipsIn(7), NONE);
        beyond.pass(1);
        due("18: one tick later", beyond.tipsIn(7), 500);
    }

    private static void promise19TipsAt() {
        CupFountain x = new CupFountain();
        due("19: -1", x.tipsAt(-1), UNKNOWN);
        due("19: 8", x.tipsAt(8), UNKNOWN);
        due("19: the fourth tick", x.tipsAt(0), 3);
        x.set(2, 3);
        due("19: of a short day", x.tipsAt(0), 0);
        x.set(2, 24);
        x.pass(23);
        due("19: the next tick", x.tipsAt(0), 23);
        x.pass(1);
        due("19: the next day", x.tipsAt(0), 3);
        x.pass(20);
        due("19: the last ticks of a day", x.tipsAt(0), 23);
        x.fill(0, 1);
        x.setCup(0, 0, 13);
        due("19: round to the hour 0", x.tipsAt(0), 23);
        x.setCup(0, 0, 14);
        due("19: round to the hour 0", x.tipsAt(0), 0);
        x.set(2, 1);
        due("19: the only hour of a day", x.tipsAt(0), 0);
        x.set(2, 240);
        due("19: of a long day", x.tipsAt(0), 48);
        x.turnLock(0);
        due("19: never", x.tipsAt(0), NONE);
        due("19: just within 500", edgeOf500(60).tipsAt(7), 499 % 24);
        due("19: ten ticks beyond", edgeOf500(61).tipsAt(7), NONE);
        CupFountain beyond = edgeOf501();
        due("19: one tick beyond", beyond.tipsAt(7), NONE);
        beyond.pass(1);
        due("19: one tick later", beyond.tipsAt(7), 500 % 24);
    }

    private static void promise20Starving() {
        CupFountain x = new CupFountain();
        due("20: none", x.starving(), NONE);
        x.turnLock(4);
        due("20: the first that is held", x.starving(), 4);
        x.setCup(2, 2, 8);
        due("20: the lowest", x.starving(), 3);
        x.set(0, 0);
        due("20: all", x.starving(), 0);
        x.fill(0, 10);
        due("20: but those that tip once", x.starving(), 3);
        due("20: tells, but changes nothing", x.count(0), 0);

        CupFountain y = new CupFountain();
        due("20: each one tips once", y.pass(4), 8);
        y.turnLock(6);
        due("20: it tipped, but not again", y.starving(), 6);
        y.set(0, 0);
        due("20: nor does any other", y.starving(), 0);

        CupFountain edge = edgeOf500(60);
        due("20: just within 500", edge.starving(), NONE);
        edge.setCup(7, 0, 61);
        due("20: ten ticks beyond", edge.starving(), 7);
        CupFountain beyond = edgeOf501();
        due("20: one tick beyond", beyond.starving(), 7);
        beyond.pass(1);
        due("20: one tick later", beyond.starving(), NONE);
    }

    private static void promise21BestSize() {
        CupFountain x = new CupFountain();
        due("21: -1", x.bestSize(-1), UNKNOWN);
        due("21: 8", x.bestSize(8), UNKNOWN);
        due("21: no hour", x.bestSize(0), NOT_POSSIBLE);
        x.setHour(0, 5);
        due("21: 16 to 18 tip in the sixth tick", x.bestSize(0), 16);
        due("21: the size is as it was", x.cup(0, 0), 10);
        x.setHour(0, 0);
        due("21: the first tick", x.bestSize(0), 1);
        x.set(0, 99);
        x.setHour(0, 1);
        due("21: all tip in the first tick", x.bestSize(0), NONE);
        x.set(0, 3);
        x.setHour(0, 8);
        due("21: 25 to 27", x.bestSize(0), 25);
        x.turnLock(0);
        due("21: held", x.bestSize(0), NONE);
        x.turnLock(0);
        x.set(0, 9);
        x.setHour(0, 10);
        due("21: 91 to 99", x.bestSize(0), 91);
        x.setHour(0, 11);
        due("21: a size of 100 would be needed", x.bestSize(0), NONE);
        x.set(0, 3);
        x.fill(0, 95);
        x.setHour(0, 1);
        due("21: only 99", x.bestSize(0), 99);
        x.fill(0, 1);
        due("21: not even 99", x.bestSize(0), NONE);
        x.undo();
        x.undo();
        x.setHour(0, 24);
        due("21: an hour that never comes", x.bestSize(0), NONE);

        CupFountain y = new CupFountain();
        y.setHour(3, 7);
        due("21: behind others", y.bestSize(3), 13);
        y.guard(3);
        due("21: with a guard", y.bestSize(3), 1);
        y.guard(3);
        y.fill(3, 40);
        due("21: with water: 53 to 64", y.bestSize(3), 53);
        y.set(2, 6);
        y.setHour(3, 1);
        due("21: the next tip, not a later one", y.bestSize(3), 53);
        due("21: no act", y.count(13), 4);

        CupFountain z = new CupFountain();
        passTo(z, 20);
        z.setHour(0, 0);
        due("21: it has just tipped", z.cup(0, 3), 0);
        due("21: round to the hour 0: 13 to 15", z.bestSize(0), 13);
        z.setHour(0, 19);
        due("21: the hour before, of the next day: 70 to 72", z.bestSize(0), 70);
        z.setHour(0, 20);
        due("21: the hour that is: 1 to 3", z.bestSize(0), 1);
        z.set(2, 1);
        z.setHour(0, 0);
        due("21: the only hour of a day", z.bestSize(0), 1);

        // The tick 499 has the hour 21 of 239, and is the first that spills with
        // it; the tick 509 is the first with the hour 31, and beyond 500 ticks.
        CupFountain edge = edgeOf500(10);
        edge.set(2, 239);
        edge.setHour(7, 21);
        due("21: just within 500", edge.bestSize(7), 60);
        edge.setHour(7, 31);
        due("21: ten ticks beyond", edge.bestSize(7), NONE);
        // The tick 500 has the hour 22, and no tick before it spills with that one.
        CupFountain beyond = edgeOf501();
        beyond.set(2, 239);
        beyond.setHour(7, 22);
        due("21: one tick beyond", beyond.bestSize(7), NONE);
        beyond.pass(1);
        due("21: one tick later", beyond.bestSize(7), 61);
    }

    private static void promise22IfTicks() {
        CupFountain x = new CupFountain();
        for (int ticks : new int[] {0, 501, -1, Integer.MIN_VALUE, Integer.MAX_VALUE}) {
            due("22: ticks " + ticks, x.ifTicks(ticks, 0), BAD_VALUE);
        }
        for (int what : new int[] {-1, 4, Integer.MIN_VALUE, Integer.MAX_VALUE}) {
            due("22: what " + what, x.ifTicks(1, what), BAD_VALUE);
        }
        due("22: one tick", x.ifTicks(1, 3), 0);
        due("22: four ticks", x.ifTicks(4, 3), 8);
        due("22: 500 ticks", x.ifTicks(500, 3), 125 * 8);
        due("22: without hours", x.ifTicks(500, 0) + x.ifTicks(500, 1) + x.ifTicks(500, 2), 0);
        x.set(0, 10);
        x.setHour(1, 10);
        x.setHour(2, 20);
        x.pass(30);
        due("22: on time", x.ifTicks(24, 0), 2);
        due("22: early", x.ifTicks(24, 1), 30);
        due("22: late", x.ifTicks(24, 2), 16);
        due("22: all", x.ifTicks(24, 3), 24 * 8);
        due("22: at first", x.ifTicks(5, 0), 1);
        due("22: nothing passed", x.count(0), 30);
        CupFountain y = edgeOf500(60);
        y.setHour(7, 499 % 24);
        due("22: one tick less than it needs", y.ifTicks(499, 0), 0);
        due("22: just as many", y.ifTicks(500, 0), 1);
        y.setHour(7, 499 % 24 + 1);
        due("22: then it is early", y.ifTicks(500, 1), 1);
        y.setHour(7, 499 % 24 - 1);
        due("22: then it is late", y.ifTicks(500, 2), 1);
        due("22: and it is the only one", y.ifTicks(500, 0) + y.ifTicks(500, 1), 0);
    }

    private static void promise23Highest() {
        CupFountain x = dry();
        for (int cup = 0; cup < 8; cup++) {
            x.setCup(cup, 2, 8);
        }
        due("23: none", x.highest(), NONE);
        x.fill(5, 12);
        x.pass(1);
        due("23: the only one", x.highest(), 5);
        x.pass(1);
        due("23: none again", x.highest(), NONE);
        x.fill(2, 12);
        x.fill(4, 13);
        x.fill(6, 13);
        x.pass(1);
        due("23: of several the lowest", x.highest(), 4);
        x.fill(7, 40);
        x.fill(6, 31);
        x.pass(1);
        due("23: as high as can be", x.highest(), 6);
        x.fill(0, 35);
        x.fill(7, 35);
        x.pass(1);
        due("23: the first", x.highest(), 0);
        x.undo();
        x.undo();
        x.undo();
        x.undo();
        due("23: undone", x.highest(), 4);
    }

    private static void promise23OfTwo() {
        for (int first = 0; first < 8; first++) {
            for (int second = first + 1; second < 8; second++) {
                due("23: the first of two is higher", highestOf(first, 13, second, 12), first);
                due("23: the second of two is higher", highestOf(first, 12, second, 13), second);
                due("23: both are as high", highestOf(first, 12, second, 12), first);
                due("23: both are as high as can be", highestOf(first, 31, second, 99), first);
                due("23: the second alone", highestOf(first, 9, second, 10), second);
                due("23: the first alone", highestOf(first, 10, second, 9), first);
            }
        }
    }

    private static int highestOf(int first, int waterOfFirst, int second, int waterOfSecond) {
        CupFountain x = dry();
        x.setCup(first, 2, 8);
        x.fill(first, waterOfFirst);
        x.setCup(second, 2, 8);
        x.fill(second, waterOfSecond);
        x.pass(1);
        return x.highest();
    }

    private static void promise24Count() {
        CupFountain x = new CupFountain();
        for (int what : new int[] {-1, 15, 16, 100, Integer.MIN_VALUE, Integer.MAX_VALUE}) {
            due("24: what " + what, x.count(what), BAD_VALUE);
        }
        x.setCup(2, 1, 1);
        x.setCup(2, 0, 20);
        x.setHour(1, 3);
        x.fill(5, 4);
        x.turnLock(0);
        x.turnLock(0);
        x.set(2, 7);
        x.pass(10);
        write(x, "g1");
        // Cups 0 and 1 tip 12 in the ticks 3 and 7. Cup 2 has 12 - 5 by the end of the
        // tick 7: 11, 10, 9, 8 and then 20 with the next 12, with which it tips.
        int[] told = {10, 3, 6, 24 + 4 - 4 + 0, 4, 30, 4, 2 + 2 + 1 + 5, 1, 0, 3, 0, 7, 4, 2};
        for (int what = 0; what < told.length; what++) {
            due("24: what " + what, x.count(what), told[what]);
        }
        x.turnLock(0);
        x.turnLock(7);
        x.fill(7, 10);
        x.fill(0, 4);
        due("24: full ones", x.count(9), 2);
        due("24: all the water", x.count(2) + x.count(3) + x.count(4), x.count(5) + x.count(6));
    }

    private static void promise24FullCups() {
        CupFountain x = dry();
        due("24: empty ones are not full", x.count(9), 0);
        x.setCup(0, 0, 1);
        due("24: not even of the size 1", x.count(9), 0);
        x.fill(7, 9);
        due("24: one less than its size", x.count(9), 0);
        x.fill(7, 1);
        due("24: its size", x.count(9), 1);
        x.fill(7, 1);
        due("24: one more", x.count(9), 1);
        x.setCup(7, 0, 12);
        due("24: a larger one", x.count(9), 0);
        for (int cup = 0; cup < 8; cup++) {
            x.fill(cup, 99);
        }
        due("24: all", x.count(9), 8);
        x.pass(1);
        due("24: all have tipped", x.count(9), 0);
    }

    private static void promise24TextAndHistory() {
        CupFountain x = new CupFountain();
        for (int length = 1; length <= 61; length++) {
            x.type('g');
            due("24: the length of the text", x.count(14), Math.min(length, 60));
        }
        for (int acts = 1; acts <= 6; acts++) {
            x.fill(0, 1);
            due("24: the states in the history", x.count(13), Math.min(acts, 4));
        }
    }

    private static void promise24AccountsAddUp() {
        CupFountain x = new CupFountain();
        x.set(0, 99);
        x.set(1, 40);
        x.setCup(2, 1, 9);
        x.setCup(4, 2, 8);
        x.setHour(6, 5);
        x.guard(6);
        x.turnLock(1);
        int filled = 0;
        for (int i = 0; i < 30; i++) {
            x.pass(17);
            // The cup 1 is shut, and is full at last.
            filled += x.fill(i % 8, 90) == FULL ? 0 : 90;
            due("24: all the water", x.count(2) + x.count(3) + x.count(4), x.count(5) + x.count(6));
            int inCups = 0;
            int tips = 0;
            for (int cup = 0; cup < 8 && i % 10 == 9; cup++) {
                inCups += x.cup(cup, 3);
                tips += x.cup(cup, 8);
            }
            if (i % 10 == 9) {
                due("24: the water of the cups", x.count(2), inCups);
                due("24: the tips of the cups", x.count(7), tips);
            }
        }
        due("24: of the spring in each tick", x.count(5), 30 * 17 * 99);
        due("24: of the gardener", x.count(6), filled);
        due("24: but for what was refused", filled, 27 * 90);
    }

    /** What all(x) tells in its rows for a cup, and behind them for the counts. */
    private static int row(int cup, int what) {
        return cup * 12 + what;
    }

    private static int countRow(int what) {
        return 8 * 12 + what;
    }

    // The one in use has tips, early and late ones, water in cups, in the basin, lost and filled.
    private static void actsChangeNothingElse() {
        changesOnly("2: a size", x -> x.setCup(4, 0, 20), row(4, 0));
        changesOnly("2: a leak", x -> x.setCup(4, 1, 9), row(4, 1));
        changesOnly("2: into which it spills", x -> x.setCup(4, 2, 8), row(4, 2));
        changesOnly("3: a lock", x -> x.turnLock(4), row(4, 5));
        changesOnly("3: a lock that was shut", x -> x.turnLock(6), row(6, 5));
        changesOnly("4: an hour", x -> x.setHour(4, 9), row(4, 4));
        changesOnly("4: another hour", x -> x.setHour(2, 9), row(2, 4));
        changesOnly("4: another hour of one with a guard", x -> x.setHour(0, 9), row(0, 4));
        changesOnly("4: an hour of one that is shut", x -> x.setHour(6, 9), row(6, 4));
        changesOnly("4: no hour", x -> x.setHour(2, -1), row(2, 4));
        changesOnly("4: no hour for one with a guard", x -> x.setHour(0, -1), row(0, 4), row(0, 5), row(0, 6));
        changesOnly("5: a guard", x -> x.guard(2), row(2, 5), row(2, 6));
        changesOnly("5: no guard", x -> x.guard(0), row(0, 5), row(0, 6));
        changesOnly("6: water", x -> x.fill(4, 5), row(4, 3), countRow(2), countRow(6));
        changesOnly("7: the spring", x -> x.set(0, 9), countRow(10));
        changesOnly("7: what comes back", x -> x.set(1, 9), countRow(11));
        changesOnly("7: the day", x -> x.set(2, 11), countRow(12), countRow(1));
        changesOnly("9: a character", x -> x.type('.'));
        changesOnly("10: no text", x -> x.clearText());
        changesOnly("11: a size in a plan", x -> perform(x, "s4=20"), row(4, 0));
        changesOnly("11: an hour in a plan", x -> perform(x, "h4@9"), row(4, 4));
        changesOnly("11: a guard in a plan", x -> perform(x, "g0"), row(0, 5), row(0, 6));
        changesOnly("11: water in a plan", x -> perform(x, "f4+5"), row(4, 3), countRow(2), countRow(6));
        changesOnly("14: a snapshot", x -> x.keep());
    }

    private static void changesOnly(String what, ToIntFunction<CupFountain> call, int... rows) {
        CupFountain x = inUse();
        int[] before = all(x);
        checks.holds(what + " is no error", call.applyAsInt(x) >= 0);
        int[] after = all(x);
        Set<Integer> changed = new TreeSet<>();
        for (int i = 0; i < before.length; i++) {
            if (before[i] != after[i]) {
                changed.add(i);
            }
        }
        Set<Integer> due = new TreeSet<>();
        for (int changing : rows) {
            due.add(changing);
        }
        checks.holds(what + " changes " + due + " and not " + changed, changed.equals(due));
    }

    private static void whatIsToldIsOfTheStateThatIs() {
        CupFountain asked = new CupFountain();
        CupFountain other = new CupFountain();
        for (int i = 1; i <= 8; i++) {
            ask(asked, i % 3 + 1);
            for (CupFountain x : new CupFountain[] {asked, other}) {
                x.pass(i % 3 + 1);
                x.set(0, 2 * i);
                x.setHour(i % 8, 3 * i);
            }
            due("told as if never asked before: all tips", asked.ifTicks(9, 3), other.ifTicks(9, 3));
            due("told as if never asked before: starving", asked.starving(), other.starving());
            for (int cup = 0; cup < 8; cup++) {
                due("told as if never asked before: reason", asked.reason(cup), other.reason(cup));
                due("told as if never asked before: tipsAt", asked.tipsAt(cup), other.tipsAt(cup));
                due("told as if never asked before: bestSize", asked.bestSize(cup), other.bestSize(cup));
            }
        }
    }

    /** Looks at last just as far ahead as the ticks that pass next. */
    private static void ask(CupFountain x, int ticks) {
        x.starving();
        x.bestSize(0);
        x.tipsIn(7);
        x.ifTicks(ticks, 3);
    }

    private static void whatIsToldChangesNothing() {
        CupFountain x = new CupFountain();
        perform(x, "h0@3;g0;h2@20;f3+5;.30");
        int[] told = all(x);
        for (int cup = 0; cup < 8; cup++) {
            x.reason(cup);
            x.tipsIn(cup);
            x.tipsAt(cup);
            x.bestSize(cup);
        }
        x.starving();
        x.ifTicks(500, 3);
        x.highest();
        same("what is told", x, told);
        due("what is told is no act", x.count(13), 1);
    }
}
