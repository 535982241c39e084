import java.util.List;
import java.util.function.Supplier;
import java.util.function.ToIntFunction;

/**
 * The sentences of HISTORY and ERRORS that name a boundary, one test for each;
 * the sentence stands above its test.
 */
public final class HistoryTest extends Fountains {
    private static final int PROBES = 7;
    // 60 characters, so that one more is refused.
    private static final String TEXT = "h3@7;f0+5;s2=7;.1;.1;.1;.1;.1;.1;.1;.1;.1;.1;.1;.1;.1;.1;.10";

    /** A call that answers an error or NONE on a fountain that is made ready for it. */
    private record Refused(String name, int answer, Supplier<CupFountain> ready, ToIntFunction<CupFountain> call) {
    }

    public static void main(String[] args) {
        fourStatesAtMost();
        oldestIsDropped();
        latestIsRestored();
        whatIsNoActIsNotRecorded();
        oneSnapshot();
        snapshotIsEmptyAtFirst();
        stateHasNoText();
        stateHasNoHistory();
        stateHasNoSnapshot();
        stateHasNoStop();
        constants();
        orderOfTheChecks();
        noneBehindTheErrors();
        refusedCallsChangeNothing();
        refusedPlansChangeTheStopAlone();
        theLatestOf512Calls();
        checks.close("HistoryTest");
    }

    // "A history of at most 4 states is kept"
    private static void fourStatesAtMost() {
        for (int acts = 0; acts <= 9; acts++) {
            CupFountain x = new CupFountain();
            for (int i = 0; i < acts; i++) {
                x.fill(7, 1);
            }
            int kept = Math.min(acts, 4);
            due("kept of " + acts, x.count(13), kept);
            for (int left = kept - 1; left >= 0; left--) {
                due("left of " + acts, x.undo(), left);
            }
            due("none is left of " + acts, x.undo(), NONE);
            due("still none of " + acts, x.undo(), NONE);
            due("undone of " + acts, x.cup(7, 3), acts - kept);
        }
    }

    // "when one more is recorded, the oldest one is dropped"
    private static void oldestIsDropped() {
        CupFountain x = new CupFountain();
        for (int water = 1; water <= 5; water++) {
            x.fill(7, 1);
        }
        for (int water = 4; water >= 1; water--) {
            x.undo();
            due("back", x.cup(7, 3), water);
        }
        due("the state without water is dropped", x.undo(), NONE);
        due("so it stays", x.cup(7, 3), 1);
    }

    // "undo() removes and restores the latest one."
    private static void latestIsRestored() {
        CupFountain x = new CupFountain();
        x.fill(7, 1);
        x.setCup(7, 0, 20);
        x.turnLock(7);
        due("the lock", x.undo(), 2);
        due("is open", x.cup(7, 5), 1);
        due("the size is not yet", x.cup(7, 0), 20);
        x.fill(7, 5);
        due("the other water", x.undo(), 2);
        due("is out", x.cup(7, 3), 1);
        due("the size", x.undo(), 1);
        due("is 10", x.cup(7, 0), 10);
        due("the water", x.undo(), 0);
        due("is none", x.cup(7, 3), 0);
    }

    // "Each call of a method that is described as an act .. records": so no other one does.
    private static void whatIsNoActIsNotRecorded() {
        CupFountain x = new CupFountain();
        x.fill(7, 10);
        x.type('g');
        x.clearText();
        x.keep();
        x.stopped(0);
        for (int cup = 0; cup < 8; cup++) {
            x.cup(cup, 0);
            x.reason(cup);
            x.tipsIn(cup);
            x.tipsAt(cup);
            x.bestSize(cup);
        }
        x.starving();
        x.ifTicks(9, 3);
        x.highest();
        x.count(0);
        due("one act", x.count(13), 1);
        due("undone", x.undo(), 0);
        due("undo is no act", x.undo(), NONE);
        due("none", x.count(13), 0);
    }

    // "There is one snapshot"
    private static void oneSnapshot() {
        CupFountain x = dry();
        x.keep();
        x.pass(3);
        x.fill(7, 4);
        due("another one", x.keep(), 3);
        x.pass(5);
        due("in place of the first", x.restore(), 3);
        due("with its water", x.cup(7, 3), 4);
        due("again", x.restore(), 3);
    }

    // "There is one snapshot, empty at first."
    private static void snapshotIsEmptyAtFirst() {
        CupFountain x = dry();
        due("none", x.restore(), NONE);
        x.pass(5);
        due("still none", x.restore(), NONE);
        due("nothing is restored", x.count(0), 5);
        x.undo();
        due("nor after undoing", x.restore(), NONE);
        due("that of the tick 0 is one", x.keep(), 0);
        due("then", x.restore(), 0);
    }

    // "A state is everything but the text .."
    private static void stateHasNoText() {
        CupFountain x = dry();
        write(x, ".1");
        x.keep();
        x.fill(7, 1);
        write(x, "f7+3;");
        x.undo();
        due("undone, but the text", x.count(14), 5);
        x.restore();
        due("restored, but the text", x.count(14), 5);
        due("it is the latest", x.perform(), -105);
        x.clearText();
        x.undo();
        due("emptied, and undone", x.count(14), 0);
    }

    // "A state is everything but .. the history .."
    private static void stateHasNoHistory() {
        CupFountain x = new CupFountain();
        x.keep();
        x.fill(7, 1);
        x.fill(7, 2);
        x.restore();
        due("restoring adds to the history", x.count(13), 3);
        due("back behind it", x.undo(), 2);
        due("the water", x.cup(7, 3), 3);
        due("undoing takes one, not more", x.undo(), 1);
        due("the water before", x.cup(7, 3), 1);
    }

    // "A state is everything but .. the snapshot .."
    private static void stateHasNoSnapshot() {
        CupFountain x = dry();
        x.pass(2);
        x.keep();
        x.undo();
        due("undone before it was taken, it is there", x.restore(), 2);
        x.pass(4);
        x.keep();
        x.undo();
        due("the latest is there", x.restore(), 6);
    }

    // "A state is everything but .. the latest stop."
    private static void stateHasNoStop() {
        CupFountain x = dry();
        x.keep();
        x.fill(7, 1);
        perform(x, ".1;g7");
        x.undo();
        due("undone, its number is there", x.stopped(0), 1);
        x.restore();
        due("restored, its error is there", x.stopped(1), NOT_POSSIBLE);
    }

    // "The constants"
    private static void constants() {
        due("UNKNOWN", UNKNOWN, -1);
        due("BAD_VALUE", BAD_VALUE, -2);
        due("FULL", FULL, -3);
        due("NOT_POSSIBLE", NOT_POSSIBLE, -4);
        due("NONE", NONE, -5);
    }

    // "Where several errors can apply, the order of the @return line is the order of the checks."
    private static void orderOfTheChecks() {
        CupFountain x = dry();
        due("setCup: no cup, no which", x.setCup(8, 3, 5), UNKNOWN);
        due("setCup: no cup, no value", x.setCup(-1, 0, 100), UNKNOWN);
        due("setHour: no cup, no hour", x.setHour(8, 240), UNKNOWN);
        due("fill: no cup, no water", x.fill(8, 0), UNKNOWN);
        due("set: no setting, no value", x.set(3, -1), UNKNOWN);
        due("cup: no cup, no what", x.cup(8, 12), UNKNOWN);
        due("stopped: no what, nothing stopped", x.stopped(2), BAD_VALUE);
        pour(x, 7, MOST_WATER);
        due("fill: no cup, and full", x.fill(-1, 1), UNKNOWN);
        due("fill: too much, and full", x.fill(7, 100), BAD_VALUE);
        due("fill: nothing, and full", x.fill(7, 0), BAD_VALUE);
        due("perform: a fault, and not possible", perform(x, "g7;f7+1;x"), -108);
        due("perform: a fault is no stop", x.stopped(0), NONE);
        CupFountain y = atTheLastTicks(MOST_TICK);
        due("pass: too many, and beyond", y.pass(100), BAD_VALUE);
        due("pass: none, and beyond", y.pass(0), BAD_VALUE);
        due("pass: one, and beyond", y.pass(1), FULL);
    }

    // "NONE is no error; it is returned only if no error applies."
    private static void noneBehindTheErrors() {
        CupFountain x = dry();
        due("setCup: no cup, as it is", x.setCup(8, 0, 10), UNKNOWN);
        due("setCup: none spills into itself, as it is", x.setCup(7, 2, 7), BAD_VALUE);
        due("setCup: as it is", x.setCup(7, 2, 8), NONE);
        due("setHour: no cup, none", x.setHour(8, -1), UNKNOWN);
        due("setHour: none", x.setHour(7, -1), NONE);
        due("set: no setting, as it were", x.set(3, 0), UNKNOWN);
        due("set: as it is", x.set(0, 0), NONE);
        due("tipsIn: no cup tips never", x.tipsIn(8), UNKNOWN);
        due("tipsIn: never", x.tipsIn(7), NONE);
        due("tipsAt: no cup tips never", x.tipsAt(8), UNKNOWN);
        due("tipsAt: never", x.tipsAt(7), NONE);
        due("bestSize: no cup", x.bestSize(8), UNKNOWN);
        due("bestSize: no hour, and never", x.bestSize(7), NOT_POSSIBLE);
        x.setHour(7, 5);
        due("bestSize: never", x.bestSize(7), NONE);
        due("stopped: nothing", x.stopped(1), NONE);
        perform(x, "g6");
        due("stopped: no what", x.stopped(-1), BAD_VALUE);
    }

    // "A call that returns an error or NONE changes nothing (but for the latest stop of perform())."
    private static void refusedCallsChangeNothing() {
        for (Refused refused : allRefused()) {
            for (int probe = 0; probe < PROBES; probe++) {
                CupFountain x = refused.ready.get();
                due(refused.name, refused.call.applyAsInt(x), refused.answer);
                alike(refused.name, x, refused.ready.get(), probe);
            }
        }
    }

    /** The probe shows the state, those of the history, the snapshot or the text. */
    private static void alike(String name, CupFountain x, CupFountain y, int probe) {
        String what = name + ", probe " + probe;
        due(what + ": the stop's number", x.stopped(0), y.stopped(0));
        due(what + ": the stop's error", x.stopped(1), y.stopped(1));
        due(what + ": the states in the history", x.count(13), y.count(13));
        due(what + ": the length of the text", x.count(14), y.count(14));
        due(what + ": its answer", show(x, probe), show(y, probe));
        same(what, x, all(y));
    }

    private static int show(CupFountain x, int probe) {
        if (probe == 5) {
            return x.restore();
        }
        if (probe == 6) {
            return x.perform();
        }
        int answer = 0;
        for (int i = 0; i < probe; i++) {
            answer = x.undo();
        }
        return answer;
    }

    /** All that a state, a history, a snapshot, a text and a stop can be lost of. */
    private static CupFountain rich() {
        CupFountain x = new CupFountain();
        perform(x, ".1;g1");
        perform(x, "h1@3;g1;h2@20;f7+12;.5");
        x.keep();
        x.turnLock(6);
        pour(x, 6, 9950);
        x.setCup(4, 1, 2);
        x.turnLock(5);
        x.set(1, 2);
        x.pass(9);
        write(x, TEXT);
        return x;
    }

    /** Without a history, a snapshot or a stop. */
    private static CupFountain fresh() {
        CupFountain x = new CupFountain();
        write(x, "f7+3;.2");
        return x;
    }

    private static CupFountain late() {
        CupFountain x = atTheLastTicks(MOST_TICK - 1);
        x.fill(7, 12);
        return x;
    }

    private static List<Refused> allRefused() {
        Supplier<CupFountain> rich = HistoryTest::rich;
        Supplier<CupFountain> fresh = HistoryTest::fresh;
        Supplier<CupFountain> late = HistoryTest::late;
        return List.of(
            new Refused("setCup of no cup", UNKNOWN, rich, x -> x.setCup(8, 0, 5)),
            new Refused("setCup of no which", BAD_VALUE, rich, x -> x.setCup(0, 3, 5)),
            new Refused("setCup of no size", BAD_VALUE, rich, x -> x.setCup(0, 0, 100)),
            new Refused("setCup of no leak", BAD_VALUE, rich, x -> x.setCup(0, 1, 10)),
            new Refused("setCup into itself", BAD_VALUE, rich, x -> x.setCup(3, 2, 3)),
            new Refused("setCup of the same size", NONE, rich, x -> x.setCup(0, 0, 10)),
            new Refused("setCup of the same leak", NONE, rich, x -> x.setCup(4, 1, 2)),
            new Refused("setCup into the same", NONE, rich, x -> x.setCup(3, 2, 4)),
            new Refused("turnLock of no cup", UNKNOWN, rich, x -> x.turnLock(-1)),
            new Refused("turnLock with a guard", NOT_POSSIBLE, rich, x -> x.turnLock(1)),
            new Refused("setHour of no cup", UNKNOWN, rich, x -> x.setHour(8, 5)),
            new Refused("setHour too late", BAD_VALUE, rich, x -> x.setHour(1, 240)),
            new Refused("setHour too early", BAD_VALUE, rich, x -> x.setHour(1, -2)),
            new Refused("setHour to the same", NONE, rich, x -> x.setHour(1, 3)),
            new Refused("setHour to none, with its lock shut", NONE, rich, x -> x.setHour(5, -1)),
            new Refused("guard of no cup", UNKNOWN, rich, x -> x.guard(8)),
            new Refused("guard without an hour", NOT_POSSIBLE, rich, x -> x.guard(0)),
            new Refused("guard without an hour, with its lock shut", NOT_POSSIBLE, rich, x -> x.guard(5)),
            new Refused("fill of no cup", UNKNOWN, rich, x -> x.fill(8, 5)),
            new Refused("fill with nothing", BAD_VALUE, rich, x -> x.fill(0, 0)),
            new Refused("fill with too much", BAD_VALUE, rich, x -> x.fill(0, 100)),
            new Refused("fill with one more than there is room for", FULL, rich, x -> x.fill(6, 50)),
            new Refused("fill with more than there is room for", FULL, rich, x -> x.fill(6, 99)),
            new Refused("set of no setting", UNKNOWN, rich, x -> x.set(3, 5)),
            new Refused("set of no spring", BAD_VALUE, rich, x -> x.set(0, 100)),
            new Refused("set of no way back", BAD_VALUE, rich, x -> x.set(1, -1)),
            new Refused("set of no day", BAD_VALUE, rich, x -> x.set(2, 241)),
            new Refused("set of the same spring", NONE, rich, x -> x.set(0, 3)),
            new Refused("set of the same way back", NONE, rich, x -> x.set(1, 2)),
            new Refused("set of the same day", NONE, rich, x -> x.set(2, 24)),
            new Refused("pass of nothing", BAD_VALUE, rich, x -> x.pass(0)),
            new Refused("pass of too many", BAD_VALUE, rich, x -> x.pass(100)),
            new Refused("pass beyond the last tick", FULL, late, x -> x.pass(2)),
            new Refused("pass far beyond the last tick", FULL, late, x -> x.pass(99)),
            new Refused("type of one more", FULL, rich, x -> x.type('0')),
            new Refused("stopped of no what", BAD_VALUE, rich, x -> x.stopped(2)),
            new Refused("stopped of nothing", NONE, fresh, x -> x.stopped(0)),
            new Refused("undo of nothing", NONE, fresh, x -> x.undo()),
            new Refused("restore of nothing", NONE, fresh, x -> x.restore()),
            new Refused("cup of no cup", UNKNOWN, rich, x -> x.cup(8, 0)),
            new Refused("cup of no what", BAD_VALUE, rich, x -> x.cup(0, 12)),
            new Refused("reason of no cup", UNKNOWN, rich, x -> x.reason(8)),
            new Refused("tipsIn of no cup", UNKNOWN, rich, x -> x.tipsIn(8)),
            new Refused("tipsIn of one that is shut", NONE, rich, x -> x.tipsIn(5)),
            new Refused("tipsAt of no cup", UNKNOWN, rich, x -> x.tipsAt(8)),
            new Refused("tipsAt of one that is shut", NONE, rich, x -> x.tipsAt(5)),
            new Refused("bestSize of no cup", UNKNOWN, rich, x -> x.bestSize(8)),
            new Refused("bestSize without an hour", NOT_POSSIBLE, rich, x -> x.bestSize(0)),
            new Refused("ifTicks of nothing", BAD_VALUE, rich, x -> x.ifTicks(0, 0)),
            new Refused("ifTicks of too many", BAD_VALUE, rich, x -> x.ifTicks(501, 0)),
            new Refused("ifTicks of no what", BAD_VALUE, rich, x -> x.ifTicks(9, 4)),
            new Refused("starving, and none does", NONE, fresh, x -> x.starving()),
            new Refused("highest, and none stands", NONE, fresh, x -> x.highest()),
            new Refused("count of no what", BAD_VALUE, rich, x -> x.count(15)));
    }

    // "A call that returns an error .. changes nothing (but for the latest stop of perform())."
    private static void refusedPlansChangeTheStopAlone() {
        refusedPlan("a fault", "s0=5;f0+7;.9;h3@9;g3;", -121, 1, NOT_POSSIBLE);
        refusedPlan("no text", "", -100, 1, NOT_POSSIBLE);
        refusedPlan("no hour", "s0=5;f0+7;.9;h3@9;g3;g0", NOT_POSSIBLE, 5, NOT_POSSIBLE);
        refusedPlan("at once", "g0;s0=5;f0+7", NOT_POSSIBLE, 0, NOT_POSSIBLE);
        refusedPlan("no room for water", "g1;h1@4;s0=5;f6+50", NOT_POSSIBLE, 3, FULL);
        CupFountain x = late();
        int[] told = all(x);
        due("beyond the last tick", perform(x, "f0+3;.1;.1;s0=5"), NOT_POSSIBLE);
        due("its number", x.stopped(0), 2);
        due("its error", x.stopped(1), FULL);
        same("beyond the last tick", x, told);
        due("just to the last tick", perform(x, "f0+3;.1;s0=5"), 3);
    }

    private static void refusedPlan(String name, String text, int answer, int number, int error) {
        for (int probe = 0; probe < PROBES - 1; probe++) {
            CupFountain x = rich();
            due(name, perform(x, text), answer);
            due(name + ": its number", x.stopped(0), number);
            due(name + ": its error", x.stopped(1), error);
            due(name + ": the text stays", x.count(14), text.length());
            due(name + ": the states in the history", x.count(13), 4);
            CupFountain y = rich();
            due(name + ": the answer of the probe " + probe, show(x, probe), show(y, probe));
            same(name + ", probe " + probe, x, all(y));
        }
    }

    // "An object is used for at most 512 calls"
    private static void theLatestOf512Calls() {
        CupFountain x = new CupFountain();
        for (int call = 1; call < 512; call++) {
            due("the call " + call, x.fill(call % 8, 1), (call + 7) / 8);
        }
        due("the call 512", x.count(6), 511);
    }
}
