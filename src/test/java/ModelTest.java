/** Long runs of calls, each answer beside that of the model; the runs are the same every time. */
public final class ModelTest {
    private static final int RUNS = 800;
    // The latest plan takes some 50 more, and what is compared at last some 200: 512 at most.
    private static final int CALLS = 260;
    private static final String SIGNS = "hsfg.;@=+0123456789x";

    private static long seed = 1;
    private static final Checks checks = new Checks();
    private static int calls = 0;

    public static void main(String[] args) {
        for (int run = 0; run < RUNS && !checks.hasFailed(); run++) {
            runCalls(run);
        }
        checks.close("ModelTest");
    }

    private static int below(int bound) {
        seed = seed * 6364136223846793005L + 1442695040888963407L;
        return (int) ((seed >>> 33) % bound);
    }

    /** Mostly within the bounds, at times just at them or beyond, or far off. */
    private static int around(int least, int most) {
        switch (below(24)) {
            case 0:
                return least - 1;
            case 1:
                return most + 1;
            case 2:
                return least;
            case 3:
                return most;
            case 4:
                return below(8) == 0 ? Integer.MIN_VALUE - below(2) : least;
            default:
                return least + below(most - least + 1);
        }
    }

    private static void runCalls(int run) {
        CupFountain x = new CupFountain();
        Model m = new Model();
        int kind = run % 4;
        calls = 0;
        while (calls < CALLS && !checks.hasFailed()) {
            if (below(10) == 0) {
                typePlan(x, m, run, kind);
            } else if (below(3) > 0) {
                act(x, m, run, kind);
            } else {
                ask(x, m, run);
            }
        }
        compareAll(x, m, run);
    }

    private static void due(int run, String call, int got, int want) {
        calls++;
        checks.due("run " + run + ": " + call, got, want);
    }

    private static int someHour(int kind) {
        return kind == 0 ? around(-1, 239) : around(-1, 25);
    }

    private static void act(CupFountain x, Model m, int run, int kind) {
        int cup = around(0, 7);
        switch (below(14)) {
            case 0: {
                int which = around(0, 2);
                int next = Math.min(8, Math.max(0, cup + 1));
                int value = which == 0 ? around(1, 99) : which == 1 ? around(0, kind == 2 ? 9 : 2) : around(next, 8);
                due(run, "setCup(" + cup + ", " + which + ", " + value + ")", x.setCup(cup, which, value),
                    m.setCup(cup, which, value));
                break;
            }
            case 1:
                if (kind == 3 || below(4) == 0) {
                    due(run, "turnLock(" + cup + ")", x.turnLock(cup), m.turnLock(cup));
                }
                break;
            case 2:
            case 3: {
                int hour = someHour(kind);
                due(run, "setHour(" + cup + ", " + hour + ")", x.setHour(cup, hour), m.setHour(cup, hour));
                break;
            }
            case 4:
                due(run, "guard(" + cup + ")", x.guard(cup), m.guard(cup));
                break;
            case 5:
            case 6: {
                int times = kind == 3 ? 6 : 1;
                int water = around(1, 99);
                for (int i = 0; i < times; i++) {
                    due(run, "fill(" + cup + ", " + water + ")", x.fill(cup, water), m.fill(cup, water));
                }
                break;
            }
            case 7: {
                int which = around(0, 2);
                int value = which == 2 ? around(1, kind == 0 ? 240 : 24) : around(0, kind == 1 ? 9 : 99);
                due(run, "set(" + which + ", " + value + ")", x.set(which, value), m.set(which, value));
                break;
            }
            case 8:
            case 9:
            case 10: {
                int ticks = below(3) == 0 ? around(1, 99) : around(1, 5);
                due(run, "pass(" + ticks + ")", x.pass(ticks), m.pass(ticks));
                break;
            }
            case 11:
                due(run, "undo()", x.undo(), m.undo());
                break;
            case 12:
                due(run, "keep()", x.keep(), m.keep());
                break;
            default:
                if (below(3) == 0) {
                    due(run, "restore()", x.restore(), m.restore());
                }
                break;
        }
    }

    private static void ask(CupFountain x, Model m, int run) {
        int cup = around(0, 7);
        int what = around(0, 14);
        int ticks = around(1, 500);
        switch (below(10)) {
            case 0:
                due(run, "cup(" + cup + ", " + what + ")", x.cup(cup, what), m.cup(cup, what));
                break;
            case 1:
                due(run, "reason(" + cup + ")", x.reason(cup), m.reason(cup));
                break;
            case 2:
                due(run, "tipsIn(" + cup + ")", x.tipsIn(cup), m.tipsIn(cup));
                break;
            case 3:
                due(run, "tipsAt(" + cup + ")", x.tipsAt(cup), m.tipsAt(cup));
                break;
            case 4:
                due(run, "starving()", x.starving(), m.starving());
                break;
            case 5:
                due(run, "bestSize(" + cup + ")", x.bestSize(cup), m.bestSize(cup));
                break;
            case 6: {
                int often = around(0, 3);
                due(run, "ifTicks(" + ticks + ", " + often + ")", x.ifTicks(ticks, often), m.ifTicks(ticks, often));
                break;
            }
            case 7:
                due(run, "highest()", x.highest(), m.highest());
                break;
            case 8:
                due(run, "stopped(" + (what - 6) + ")", x.stopped(what - 6), m.stopped(what - 6));
                break;
            default:
                due(run, "count(" + what + ")", x.count(what), m.count(what));
                break;
        }
    }

    /** Types a plan, at times with a sign that is wrong, and performs it. */
    private static void typePlan(CupFountain x, Model m, int run, int kind) {
        due(run, "clearText()", x.clearText(), m.clearText());
        String text = somePlan(kind);
        for (int i = 0; i < text.length(); i++) {
            due(run, "type(" + (int) text.charAt(i) + ")", x.type(text.charAt(i)), m.type(text.charAt(i)));
        }
        due(run, "perform() of \"" + text + "\"", x.perform(), m.perform());
    }

    private static String somePlan(int kind) {
        StringBuilder text = new StringBuilder();
        int things = 1 + below(5);
        for (int i = 0; i < things; i++) {
            if (i > 0) {
                text.append(';');
            }
            addThing(text, kind);
        }
        if (below(3) == 0) {
            text.insert(below(text.length() + 1), SIGNS.charAt(below(SIGNS.length())));
        }
        if (below(8) == 0) {
            text.setLength(below(text.length()));
        }
        return text.toString();
    }

    private static void addThing(StringBuilder text, int kind) {
        int cup = below(8);
        switch (below(kind == 1 ? 6 : 5)) {
            case 0:
                text.append('h').append(cup).append('@').append(Math.max(0, someHour(kind)));
                break;
            case 1:
                text.append('s').append(cup).append('=').append(Math.max(0, around(1, 99)));
                break;
            case 2:
                text.append('f').append(cup).append('+').append(Math.max(0, around(1, 99)));
                break;
            case 3:
                text.append('g').append(cup);
                break;
            default:
                text.append('.').append(Math.max(0, around(1, 99)));
                break;
        }
    }

    private static void compareAll(CupFountain x, Model m, int run) {
        for (int cup = -1; cup <= 8; cup++) {
            for (int what = -1; what <= 12; what++) {
                due(run, "at last cup(" + cup + ", " + what + ")", x.cup(cup, what), m.cup(cup, what));
            }
            due(run, "at last reason(" + cup + ")", x.reason(cup), m.reason(cup));
            due(run, "at last tipsIn(" + cup + ")", x.tipsIn(cup), m.tipsIn(cup));
            due(run, "at last bestSize(" + cup + ")", x.bestSize(cup), m.bestSize(cup));
        }
        for (int what = -1; what <= 15; what++) {
            due(run, "at last count(" + what + ")", x.count(what), m.count(what));
        }
        due(run, "at last all water", x.count(2) + x.count(3) + x.count(4), x.count(5) + x.count(6));
    }
}
