import java.util.ArrayDeque;
import java.util.Deque;
import java.util.regex.Matcher;
import java.util.regex.Pattern;

/**
 * The document once more, with all of Java's library and built otherwise than
 * the program: a state is a table that is copied, the text is read by a pattern,
 * and the best size is found by going on with one size after the other.
 */
final class Model {
    private static final int SIZE = 0;
    private static final int LEAK = 1;
    private static final int NEXT = 2;
    private static final int WATER = 3;
    private static final int HOUR = 4;
    private static final int OPEN = 5;
    private static final int GUARD = 6;
    private static final int JET = 7;
    private static final int TIPS = 8;

    private static final String NUMBER = "([1-9][0-9]?)";
    private static final String THING = "(h[0-7]@(0|[1-9][0-9]?|1[0-9][0-9]|2[0-3][0-9])|s[0-7]=" + NUMBER
        + "|f[0-7]\\+" + NUMBER + "|g[0-7]|\\." + NUMBER + ")";
    private static final Pattern PLAN = Pattern.compile(THING + "(;" + THING + ")*", Pattern.DOTALL);

    private static final class Fountain {
        int[][] cups = new int[8][12];
        int[] settings = {3, 0, 24};
        int tick;
        int basin;
        int lost;
        int fromSpring;
        int byHand;

        Fountain() {
            for (int k = 0; k < 8; k++) {
                cups[k] = new int[] {10, 0, k + 1, 0, -5, 1, 0, 0, 0, 0, 0, 0};
            }
        }

        Fountain copy() {
            Fountain f = new Fountain();
            for (int k = 0; k < 8; k++) {
                f.cups[k] = cups[k].clone();
            }
            f.settings = settings.clone();
            f.tick = tick;
            f.basin = basin;
            f.lost = lost;
            f.fromSpring = fromSpring;
            f.byHand = byHand;
            return f;
        }

        int hour() {
            return tick % settings[2];
        }

        boolean isHeld(int[] c) {
            return c[GUARD] == 1 ? c[HOUR] != hour() : c[OPEN] == 0;
        }

        /** Answers the cups that tip as a set of bits. */
        int step() {
            int tipping = 0;
            int back = settings[1] < basin ? settings[1] : basin;
            basin -= back;
            fromSpring += settings[0];
            cups[0][WATER] += settings[0] + back;
            for (int k = 0; k < 8; k++) {
                int[] c = cups[k];
                if (c[WATER] >= c[SIZE] && !isHeld(c)) {
                    tipping |= 1 << k;
                    int height = 10 * c[WATER] / c[SIZE];
                    c[JET] = height > 30 ? 30 : height;
                    c[TIPS]++;
                    if (c[HOUR] >= 0) {
                        c[hour() == c[HOUR] ? 9 : hour() < c[HOUR] ? 10 : 11]++;
                    }
                    if (c[NEXT] == 8) {
                        basin += c[WATER];
                    } else {
                        cups[c[NEXT]][WATER] += c[WATER];
                    }
                    c[WATER] = 0;
                } else {
                    c[JET] = 0;
                    if (c[WATER] > 9999) {
                        basin += c[WATER] - 9999;
                        c[WATER] = 9999;
                    }
                }
            }
            for (int[] c : cups) {
                int left = c[WATER] > c[LEAK] ? c[WATER] - c[LEAK] : 0;
                lost += c[WATER] - left;
                c[WATER] = left;
            }
            tick++;
            return tipping;
        }
    }

    private Fountain now = new Fountain();
    private Fountain snapshot;
    private final Deque<Fountain> past = new ArrayDeque<>();
    private String text = "";
    private int stopNumber = -1;
    private int stopError;

    private static boolean in(int value, int least, int most) {
        return least <= value && value <= most;
    }

    private int act(Fountain was, int answer) {
        if (answer >= 0) {
            past.addLast(was);
            if (past.size() > 4) {
                past.removeFirst();
            }
        }
        return answer;
    }

    int setCup(int cup, int which, int value) {
        return act(now.copy(), changeCup(cup, which, value));
    }

    private int changeCup(int cup, int which, int value) {
        if (!in(cup, 0, 7)) {
            return -1;
        }
        if (!in(which, 0, 2)) {
            return -2;
        }
        int[] least = {1, 0, cup + 1};
        int[] most = {99, 9, 8};
        if (!in(value, least[which], most[which])) {
            return -2;
        }
        int was = now.cups[cup][which];
        now.cups[cup][which] = value;
        return was == value ? -5 : was;
    }

    int turnLock(int cup) {
        if (!in(cup, 0, 7)) {
            return -1;
        }
        if (now.cups[cup][GUARD] == 1) {
            return -4;
        }
        Fountain was = now.copy();
        now.cups[cup][OPEN] ^= 1;
        return act(was, now.cups[cup][OPEN]);
    }

    int setHour(int cup, int hour) {
        return act(now.copy(), changeHour(cup, hour));
    }

    private int changeHour(int cup, int hour) {
        if (!in(cup, 0, 7)) {
            return -1;
        }
        if (!in(hour, -1, 239)) {
            return -2;
        }
        int[] c = now.cups[cup];
        int was = c[HOUR] == -5 ? -1 : c[HOUR];
        if (was == hour) {
            return -5;
        }
        if (hour == -1) {
            c[HOUR] = -5;
            c[GUARD] = 0;
            c[OPEN] = 1;
        } else {
            c[HOUR] = hour;
        }
        return was == -1 ? 240 : was;
    }

    int guard(int cup) {
        return act(now.copy(), changeGuard(cup));
    }

    private int changeGuard(int cup) {
        if (!in(cup, 0, 7)) {
            return -1;
        }
        int[] c = now.cups[cup];
        if (c[HOUR] == -5) {
            return -4;
        }
        c[OPEN] = c[GUARD];
        c[GUARD] = 1 - c[GUARD];
        return c[GUARD];
    }

    int fill(int cup, int water) {
        return act(now.copy(), pour(cup, water));
    }

    private int pour(int cup, int water) {
        if (!in(cup, 0, 7)) {
            return -1;
        }
        if (!in(water, 1, 99)) {
            return -2;
        }
        if (now.cups[cup][WATER] + water > 9999) {
            return -3;
        }
        now.byHand += water;
        return now.cups[cup][WATER] += water;
    }

    int set(int which, int value) {
        if (!in(which, 0, 2)) {
            return -1;
        }
        if (which == 2 ? !in(value, 1, 240) : !in(value, 0, 99)) {
            return -2;
        }
        int previous = now.settings[which];
        if (previous == value) {
            return -5;
        }
        Fountain was = now.copy();
        now.settings[which] = value;
        return act(was, previous);
    }

    int pass(int ticks) {
        return act(now.copy(), letPass(ticks));
    }

    private int letPass(int ticks) {
        if (!in(ticks, 1, 99)) {
            return -2;
        }
        if (now.tick + ticks > 99999) {
            return -3;
        }
        int tips = 0;
        for (int i = 0; i < ticks; i++) {
            tips += Integer.bitCount(now.step());
        }
        return tips;
    }

    int type(char character) {
        if (text.length() == 60) {
            return -3;
        }
        text += character;
        return text.length();
    }

    int clearText() {
        int length = text.length();
        text = "";
        return length;
    }

    private int fault() {
        Matcher whole = PLAN.matcher(text);
        if (whole.matches()) {
            return -1;
        }
        int right = 0;
        while (right < text.length()) {
            Matcher part = PLAN.matcher(text.substring(0, right + 1));
            if (!part.matches() && !part.hitEnd()) {
                break;
            }
            right++;
        }
        return right;
    }

    int perform() {
        int fault = fault();
        if (fault >= 0) {
            return -100 - fault;
        }
        Fountain was = now.copy();
        String[] things = text.split(";");
        for (int i = 0; i < things.length; i++) {
            int answer = doThing(things[i]);
            if (answer < 0 && answer != -5) {
                now = was;
                stopNumber = i;
                stopError = answer;
                return -4;
            }
        }
        return act(was, things.length);
    }

    private int doThing(String thing) {
        char kind = thing.charAt(0);
        if (kind == '.') {
            return letPass(Integer.parseInt(thing.substring(1)));
        }
        int cup = thing.charAt(1) - '0';
        if (kind == 'g') {
            return changeGuard(cup);
        }
        int number = Integer.parseInt(thing.substring(3));
        if (kind == 'h') {
            return changeHour(cup, number);
        }
        return kind == 's' ? changeCup(cup, 0, number) : pour(cup, number);
    }

    int stopped(int what) {
        if (!in(what, 0, 1)) {
            return -2;
        }
        if (stopNumber < 0) {
            return -5;
        }
        return what == 0 ? stopNumber : stopError;
    }

    int undo() {
        if (past.isEmpty()) {
            return -5;
        }
        now = past.removeLast();
        return past.size();
    }

    int keep() {
        snapshot = now.copy();
        return now.tick;
    }

    int restore() {
        if (snapshot == null) {
            return -5;
        }
        Fountain was = now;
        now = snapshot.copy();
        return act(was, now.tick);
    }

    int cup(int cup, int what) {
        if (!in(cup, 0, 7)) {
            return -1;
        }
        return in(what, 0, 11) ? now.cups[cup][what] : -2;
    }

    int reason(int cup) {
        if (!in(cup, 0, 7)) {
            return -1;
        }
        int[] c = now.cups[cup];
        if ((now.copy().step() >> cup & 1) == 1) {
            return 0;
        }
        if (!now.isHeld(c)) {
            return 3;
        }
        return c[GUARD] == 1 ? 1 : 2;
    }

    private static int tipsIn(Fountain f, int cup) {
        int ticks = 0;
        while (ticks++ < 500) {
            if ((f.step() & 1 << cup) != 0) {
                return ticks;
            }
        }
        return -5;
    }

    private static int tipsAt(Fountain f, int cup) {
        int tick = f.tick;
        int ticks = tipsIn(f, cup);
        return ticks < 0 ? ticks : (tick + ticks - 1) % f.settings[2];
    }

    int tipsIn(int cup) {
        return in(cup, 0, 7) ? tipsIn(now.copy(), cup) : -1;
    }

    int tipsAt(int cup) {
        return in(cup, 0, 7) ? tipsAt(now.copy(), cup) : -1;
    }

    int starving() {
        for (int k = 0; k < 8; k++) {
            if (tipsIn(k) == -5) {
                return k;
            }
        }
        return -5;
    }

    int bestSize(int cup) {
        if (!in(cup, 0, 7)) {
            return -1;
        }
        int hour = now.cups[cup][HOUR];
        if (hour == -5) {
            return -4;
        }
        for (int size = 1; size <= 99; size++) {
            Fountain f = now.copy();
            f.cups[cup][SIZE] = size;
            if (tipsAt(f, cup) == hour) {
                return size;
            }
        }
        return -5;
    }

    int ifTicks(int ticks, int what) {
        if (!in(ticks, 1, 500) || !in(what, 0, 3)) {
            return -2;
        }
        Fountain f = now.copy();
        int[] often = new int[4];
        for (int i = 0; i < ticks; i++) {
            int hour = f.hour();
            int tipping = f.step();
            for (int k = 0; k < 8; k++) {
                if ((tipping & 1 << k) == 0) {
                    continue;
                }
                often[3]++;
                int due = f.cups[k][HOUR];
                if (due >= 0) {
                    often[due == hour ? 0 : hour < due ? 1 : 2]++;
                }
            }
        }
        return often[what];
    }

    int highest() {
        int found = -5;
        for (int k = 7; k >= 0; k--) {
            if (now.cups[k][JET] > 0 && (found < 0 || now.cups[k][JET] >= now.cups[found][JET])) {
                found = k;
            }
        }
        return found;
    }

    int count(int what) {
        if (!in(what, 0, 14)) {
            return -2;
        }
        int full = 0;
        int[] sums = new int[12];
        for (int[] c : now.cups) {
            full += c[WATER] >= c[SIZE] ? 1 : 0;
            for (int i = 0; i < 12; i++) {
                sums[i] += c[i];
            }
        }
        int[] told = {now.tick, now.hour(), sums[WATER], now.basin, now.lost, now.fromSpring, now.byHand, sums[TIPS],
            sums[9], full, now.settings[0], now.settings[1], now.settings[2], past.size(), text.length()};
        return told[what];
    }
}
