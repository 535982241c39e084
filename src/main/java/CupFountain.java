/** A fountain that plays hours by cups that spill into each other. */
public final class CupFountain {
    public static final int UNKNOWN = -1;
    public static final int BAD_VALUE = -2;
    public static final int FULL = -3;
    public static final int NOT_POSSIBLE = -4;
    public static final int NONE = -5;

    private static final int CUPS = 8;
    private static final int BASIN = 8;
    private static final int MOST_SIZE = 99;
    private static final int MOST_LEAK = 9;
    private static final int MOST_WATER = 9999;
    private static final int MOST_FILL = 99;
    private static final int MOST_FLOW = 99;
    private static final int MOST_DAY = 240;
    private static final int MOST_HOUR = 239;
    private static final int MOST_JET = 30;
    private static final int MOST_PASS = 99;
    private static final int MOST_TICK = 99999;
    private static final int MOST_AHEAD = 500;
    private static final int MOST_TEXT = 60;
    private static final int MOST_DIGITS = 3;
    private static final int MOST_PAST = 4;
    private static final int NO_HOUR = -1;
    private static final int NO_HOUR_BEFORE = 240;
    private static final int NO_FAULT = -1;
    private static final int NO_CHARACTER = -1;
    private static final int NO_STOP = -1;
    private static final int FAULT = -100;

    private static final int SIZE = 0;
    private static final int LEAK = 1;
    private static final int NEXT = 2;
    private static final int WATER = 3;
    private static final int HOUR = 4;
    private static final int OPEN = 5;
    private static final int GUARDED = 6;
    private static final int JET = 7;
    private static final int TIPS = 8;
    private static final int ON_TIME = 9;
    private static final int EARLY = 10;
    private static final int LATE = 11;

    private final State now = new State();
    // Rows for the look-ahead and for the state before an act: made once,
    // so that no call makes an object.
    private final State ahead = new State();
    private final State before = new State();
    private final State snapshot = new State();
    private final State[] past = new State[MOST_PAST];
    private final Plan plan = new Plan();
    private int pastCount = 0;
    private boolean hasSnapshot = false;
    private int stopNumber = NO_STOP;
    private int stopError = 0;

    public CupFountain() {
        for (int i = 0; i < MOST_PAST; i++) {
            past[i] = new State();
        }
    }

    // ---- cups

    public int setCup(int cup, int which, int value) {
        before.copyFrom(now);
        return recorded(now.changeCup(cup, which, value));
    }

    public int turnLock(int cup) {
        before.copyFrom(now);
        return recorded(now.changeLock(cup));
    }

    public int setHour(int cup, int hour) {
        before.copyFrom(now);
        return recorded(now.changeHour(cup, hour));
    }

    public int guard(int cup) {
        before.copyFrom(now);
        return recorded(now.changeGuard(cup));
    }

    public int fill(int cup, int water) {
        before.copyFrom(now);
        return recorded(now.pour(cup, water));
    }

    public int set(int which, int value) {
        before.copyFrom(now);
        return recorded(now.changeSetting(which, value));
    }

    public int pass(int ticks) {
        before.copyFrom(now);
        return recorded(now.letPass(ticks));
    }

    // ---- texts

    public int type(char character) {
        return plan.append(character);
    }

    public int clearText() {
        return plan.empty();
    }

    public int perform() {
        int fault = plan.read();
        if (fault != NO_FAULT) {
            return FAULT - fault;
        }
        before.copyFrom(now);
        for (int i = 0; i < plan.things; i++) {
            int answer = plan.doThing(i, now);
            if (isError(answer)) {
                stopNumber = i;
                stopError = answer;
                now.copyFrom(before);
                return NOT_POSSIBLE;
            }
        }
        return recorded(plan.things);
    }

    public int stopped(int what) {
        if (!isWithin(what, 0, 1)) {
            return BAD_VALUE;
        }
        if (stopNumber == NO_STOP) {
            return NONE;
        }
        return what == 0 ? stopNumber : stopError;
    }

    // ---- history

    public int undo() {
        if (pastCount <= 0 || pastCount > MOST_PAST) {
            return NONE;
        }
        pastCount--;
        now.copyFrom(past[pastCount]);
        return pastCount;
    }

    public int keep() {
        snapshot.copyFrom(now);
        hasSnapshot = true;
        return now.tick;
    }

    public int restore() {
        if (!hasSnapshot) {
            return NONE;
        }
        before.copyFrom(now);
        now.copyFrom(snapshot);
        return recorded(now.tick);
    }

    // ---- what is told

    public int cup(int cup, int what) {
        Cup told = now.find(cup);
        return told == null ? UNKNOWN : told.tell(what);
    }

    public int reason(int cup) {
        Cup told = now.find(cup);
        if (told == null) {
            return UNKNOWN;
        }
        ahead.copyFrom(now);
        ahead.tickOnce();
        Cup later = ahead.find(cup);
        if (later != null && later.tips > told.tips) {
            return 0;
        }
        if (told.guarded) {
            // In its hour the guard opens the lock, so that only water is missing.
            return told.hour == now.hourOf(now.tick) ? 3 : 1;
        }
        return told.open ? 3 : 2;
    }

    public int tipsIn(int cup) {
        ahead.copyFrom(now);
        return ticksTillTip(cup);
    }

    public int tipsAt(int cup) {
        ahead.copyFrom(now);
        return hourOfTip(cup);
    }

    public int starving() {
        ahead.copyFrom(now);
        ahead.tickOn(MOST_AHEAD);
        for (int i = 0; i < CUPS; i++) {
            if (ahead.cups[i].tips == now.cups[i].tips) {
                return i;
            }
        }
        return NONE;
    }

    public int bestSize(int cup) {
        ahead.copyFrom(now);
        Cup watched = ahead.find(cup);
        if (watched == null) {
            return UNKNOWN;
        }
        if (watched.hour == NO_HOUR) {
            return NOT_POSSIBLE;
        }
        // A cup's size changes nothing before it tips, so that one look-ahead with
        // a size beyond all serves for all sizes: each would tip as it is reached.
        watched.size = MOST_SIZE + 1;
        int reached = 0;
        for (int ticks = 0; ticks < MOST_AHEAD && reached < MOST_SIZE; ticks++) {
            boolean isHour = ahead.hourOf(ahead.tick) == watched.hour;
            ahead.tickOnce();
            if (isHour && watched.ready > reached) {
                return reached + 1;
            }
            reached = Math.max(reached, watched.ready);
        }
        return NONE;
    }

    public int ifTicks(int ticks, int what) {
        if (!isWithin(ticks, 1, MOST_AHEAD) || !isWithin(what, 0, 3)) {
            return BAD_VALUE;
        }
        ahead.copyFrom(now);
        ahead.tickOn(ticks);
        int kind = what == 3 ? TIPS : ON_TIME + what;
        return ahead.sumOf(kind) - now.sumOf(kind);
    }

    public int highest() {
        int found = NONE;
        int height = 0;
        for (int i = 0; i < CUPS; i++) {
            if (now.cups[i].jet > height) {
                found = i;
                height = now.cups[i].jet;
            }
        }
        return found;
    }

    public int count(int what) {
        switch (what) {
            case 13:
                return pastCount;
            case 14:
                return plan.length;
            default:
                return now.tell(what);
        }
    }

    /** Records the state before an act, if the act was one that changes something. */
    private int recorded(int answer) {
        if (answer < 0) {
            return answer;
        }
        if (pastCount >= MOST_PAST) {
            dropOldest();
        }
        past[pastCount].copyFrom(before);
        pastCount++;
        return answer;
    }

    private void dropOldest() {
        State oldest = past[0];
        for (int i = 1; i < MOST_PAST; i++) {
            past[i - 1] = past[i];
        }
        // Its row is used again for the next state.
        past[MOST_PAST - 1] = oldest;
        pastCount = MOST_PAST - 1;
    }

    /** Runs the look-ahead until the cup has tipped. */
    private int ticksTillTip(int cup) {
        Cup awaited = ahead.find(cup);
        if (awaited == null) {
            return UNKNOWN;
        }
        int tipsBefore = awaited.tips;
        for (int ticks = 1; ticks <= MOST_AHEAD; ticks++) {
            ahead.tickOnce();
            if (awaited.tips > tipsBefore) {
                return ticks;
            }
        }
        return NONE;
    }

    private int hourOfTip(int cup) {
        int ticks = ticksTillTip(cup);
        return ticks < 0 ? ticks : ahead.hourOf(ahead.tick - 1);
    }

    private static boolean isWithin(int value, int least, int most) {
        return value >= least && value <= most;
    }

    private static boolean isError(int answer) {
        return answer < 0 && answer != NONE;
    }

    private static int asNumber(boolean holds) {
        return holds ? 1 : 0;
    }

    /** One cup with its jet and its tallies. */
    private static final class Cup {
        int size = 10;
        int leak = 0;
        int next;
        int water = 0;
        int hour = NO_HOUR;
        boolean open = true;
        boolean guarded = false;
        int jet = 0;
        int tips = 0;
        int onTime = 0;
        int early = 0;
        int late = 0;
        // The water that it could spill at its turn in the latest tick: no part of
        // what is told or copied, as each tick sets it anew.
        int ready = 0;

        Cup(int next) {
            this.next = next;
        }

        void copyFrom(Cup other) {
            size = other.size;
            leak = other.leak;
            next = other.next;
            water = other.water;
            hour = other.hour;
            open = other.open;
            guarded = other.guarded;
            jet = other.jet;
            tips = other.tips;
            onTime = other.onTime;
            early = other.early;
            late = other.late;
        }

        boolean isFull() {
            return water >= size;
        }

        /** Tips the cup; answers the water that leaves it. */
        int tip(int hourNow) {
            int spilled = water;
            int height = size > 0 ? 10 * water / size : 0;
            jet = height < MOST_JET ? height : MOST_JET;
            water = 0;
            tips++;
            if (hour == NO_HOUR) {
                return spilled;
            }
            if (hourNow == hour) {
                onTime++;
            } else if (hourNow < hour) {
                early++;
            } else {
                late++;
            }
            return spilled;
        }

        /** Answers the water for which a cup that does not tip has no room. */
        int runOver() {
            int over = water > MOST_WATER ? water - MOST_WATER : 0;
            water -= over;
            return over;
        }

        /** Answers the water that is lost. */
        int drip() {
            int dripped = Math.min(water, leak);
            water -= dripped;
            return dripped;
        }

        int tell(int what) {
            switch (what) {
                case SIZE:
                    return size;
                case LEAK:
                    return leak;
                case NEXT:
                    return next;
                case WATER:
                    return water;
                case HOUR:
                    return hour == NO_HOUR ? NONE : hour;
                case OPEN:
                    return asNumber(open);
                case GUARDED:
                    return asNumber(guarded);
                case JET:
                    return jet;
                case TIPS:
                    return tips;
                case ON_TIME:
                    return onTime;
                case EARLY:
                    return early;
                case LATE:
                    return late;
                default:
                    return BAD_VALUE;
            }
        }
    }

    /** All that undo() and restore() bring back. */
    private static final class State {
        final Cup[] cups = new Cup[CUPS];
        int tick = 0;
        int spring = 3;
        int comesBack = 0;
        int day = 24;
        int basin = 0;
        int lost = 0;
        int sprung = 0;
        int filled = 0;

        State() {
            for (int i = 0; i < CUPS; i++) {
                cups[i] = new Cup(i + 1);
            }
        }

        void copyFrom(State other) {
            for (int i = 0; i < CUPS; i++) {
                cups[i].copyFrom(other.cups[i]);
            }
            tick = other.tick;
            spring = other.spring;
            comesBack = other.comesBack;
            day = other.day;
            basin = other.basin;
            lost = other.lost;
            sprung = other.sprung;
            filled = other.filled;
        }

        /** Answers null for what is no cup, the basin too. */
        Cup find(int cup) {
            return cup >= 0 && cup < CUPS ? cups[cup] : null;
        }

        int hourOf(int someTick) {
            return day > 0 ? someTick % day : 0;
        }

        int changeCup(int cup, int which, int value) {
            Cup changed = find(cup);
            if (changed == null) {
                return UNKNOWN;
            }
            if (!isCupValue(cup, which, value)) {
                return BAD_VALUE;
            }
            int previous = changed.tell(which);
            if (previous == value) {
                return NONE;
            }
            if (which == SIZE) {
                changed.size = value;
            } else if (which == LEAK) {
                changed.leak = value;
            } else {
                changed.next = value;
            }
            return previous;
        }

        private static boolean isCupValue(int cup, int which, int value) {
            switch (which) {
                case SIZE:
                    return isWithin(value, 1, MOST_SIZE);
                case LEAK:
                    return isWithin(value, 0, MOST_LEAK);
                case NEXT:
                    return isWithin(value, cup + 1, BASIN);
                default:
                    return false;
            }
        }

        int changeLock(int cup) {
            Cup changed = find(cup);
            if (changed == null) {
                return UNKNOWN;
            }
            if (changed.guarded) {
                return NOT_POSSIBLE;
            }
            changed.open = !changed.open;
            return asNumber(changed.open);
        }

        int changeHour(int cup, int hour) {
            Cup changed = find(cup);
            if (changed == null) {
                return UNKNOWN;
            }
            if (!isWithin(hour, NO_HOUR, MOST_HOUR)) {
                return BAD_VALUE;
            }
            int previous = changed.hour;
            if (previous == hour) {
                return NONE;
            }
            changed.hour = hour;
            if (hour == NO_HOUR) {
                changed.guarded = false;
                changed.open = true;
            }
            return previous == NO_HOUR ? NO_HOUR_BEFORE : previous;
        }

        int changeGuard(int cup) {
            Cup changed = find(cup);
            if (changed == null) {
                return UNKNOWN;
            }
            if (changed.hour == NO_HOUR) {
                return NOT_POSSIBLE;
            }
            changed.guarded = !changed.guarded;
            changed.open = !changed.guarded;
            return asNumber(changed.guarded);
        }

        int pour(int cup, int water) {
            Cup changed = find(cup);
            if (changed == null) {
                return UNKNOWN;
            }
            if (!isWithin(water, 1, MOST_FILL)) {
                return BAD_VALUE;
            }
            if (changed.water + water > MOST_WATER) {
                return FULL;
            }
            changed.water += water;
            filled += water;
            return changed.water;
        }

        int changeSetting(int which, int value) {
            if (!isWithin(which, 0, 2)) {
                return UNKNOWN;
            }
            if (which == 2 ? !isWithin(value, 1, MOST_DAY) : !isWithin(value, 0, MOST_FLOW)) {
                return BAD_VALUE;
            }
            int previous = tellSetting(which);
            if (previous == value) {
                return NONE;
            }
            if (which == 0) {
                spring = value;
            } else if (which == 1) {
                comesBack = value;
            } else {
                day = value;
            }
            return previous;
        }

        private int tellSetting(int which) {
            if (which == 0) {
                return spring;
            }
            return which == 1 ? comesBack : day;
        }

        int letPass(int ticks) {
            if (!isWithin(ticks, 1, MOST_PASS)) {
                return BAD_VALUE;
            }
            if (tick + ticks > MOST_TICK) {
                return FULL;
            }
            return tickOn(ticks);
        }

        /** Answers how many times cups tip; past the last tick too, for the look-ahead. */
        int tickOn(int ticks) {
            int tips = 0;
            for (int i = 0; i < ticks; i++) {
                tips += tickOnce();
            }
            return tips;
        }

        int tickOnce() {
            int hourNow = hourOf(tick);
            openGuarded(hourNow);
            springs();
            int tips = 0;
            for (int i = 0; i < CUPS; i++) {
                tips += tipOrKeep(cups[i], hourNow);
            }
            for (int i = 0; i < CUPS; i++) {
                lost += cups[i].drip();
            }
            shutGuarded();
            tick++;
            return tips;
        }

        private void openGuarded(int hourNow) {
            for (int i = 0; i < CUPS; i++) {
                if (cups[i].guarded && cups[i].hour == hourNow) {
                    cups[i].open = true;
                }
            }
        }

        // No call sees the time between a tip and the end of its tick, so that
        // shutting here also serves for the lock that shuts as its cup has tipped.
        private void shutGuarded() {
            for (int i = 0; i < CUPS; i++) {
                if (cups[i].guarded) {
                    cups[i].open = false;
                }
            }
        }

        private void springs() {
            int back = Math.min(basin, comesBack);
            basin -= back;
            sprung += spring;
            cups[0].water += spring + back;
        }

        private int tipOrKeep(Cup cup, int hourNow) {
            cup.ready = cup.open ? cup.water : 0;
            if (cup.ready < cup.size) {
                cup.jet = 0;
                basin += cup.runOver();
                return 0;
            }
            int spilled = cup.tip(hourNow);
            Cup below = find(cup.next);
            if (below == null) {
                basin += spilled;
            } else {
                below.water += spilled;
            }
            return 1;
        }

        int tell(int what) {
            switch (what) {
                case 0:
                    return tick;
                case 1:
                    return hourOf(tick);
                case 2:
                    return sumOf(WATER);
                case 3:
                    return basin;
                case 4:
                    return lost;
                case 5:
                    return sprung;
                case 6:
                    return filled;
                case 7:
                    return sumOf(TIPS);
                case 8:
                    return sumOf(ON_TIME);
                case 9:
                    return sumFull();
                case 10:
                case 11:
                case 12:
                    return tellSetting(what - 10);
                default:
                    return BAD_VALUE;
            }
        }

        /** Adds up what the cups tell. */
        int sumOf(int what) {
            int sum = 0;
            for (int i = 0; i < CUPS; i++) {
                sum += cups[i].tell(what);
            }
            return sum;
        }

        private int sumFull() {
            int sum = 0;
            for (int i = 0; i < CUPS; i++) {
                sum += asNumber(cups[i].isFull());
            }
            return sum;
        }
    }

    /** The text, and the things that it tells once it is read. */
    private static final class Plan {
        final char[] text = new char[MOST_TEXT];
        int length = 0;
        // A thing takes a character at least, so that there are no more of them.
        final int[] kinds = new int[MOST_TEXT];
        final int[] whose = new int[MOST_TEXT];
        final int[] numbers = new int[MOST_TEXT];
        int things = 0;
        int place = 0;

        int append(char character) {
            if (length >= MOST_TEXT) {
                return FULL;
            }
            text[length] = character;
            length++;
            return length;
        }

        int empty() {
            int previous = length;
            length = 0;
            return previous;
        }

        /** Reads the text into things; answers its fault, or NO_FAULT. */
        int read() {
            place = 0;
            things = 0;
            for (int thing = 0; thing < MOST_TEXT; thing++) {
                if (!readThing(thing)) {
                    return place;
                }
                things = thing + 1;
                if (place >= length) {
                    return NO_FAULT;
                }
                if (!skip(';')) {
                    return place;
                }
            }
            return place;
        }

        // Each reader leaves the place at the fault, where there is one.

        private boolean readThing(int thing) {
            int kind = look();
            switch (kind) {
                case 'h':
                    return startThing(thing, kind) && readCup(thing) && skip('@') && readNumber(thing, 0, MOST_HOUR);
                case 's':
                    return startThing(thing, kind) && readCup(thing) && skip('=') && readNumber(thing, 1, MOST_SIZE);
                case 'f':
                    return startThing(thing, kind) && readCup(thing) && skip('+') && readNumber(thing, 1, MOST_FILL);
                case 'g':
                    return startThing(thing, kind) && readCup(thing);
                case '.':
                    return startThing(thing, kind) && readNumber(thing, 1, MOST_PASS);
                default:
                    return false;
            }
        }

        private boolean startThing(int thing, int kind) {
            if (!isWithin(thing, 0, MOST_TEXT - 1)) {
                return false;
            }
            kinds[thing] = kind;
            place++;
            return true;
        }

        private boolean readCup(int thing) {
            int digit = lookForDigit();
            if (!isWithin(digit, 0, CUPS - 1)) {
                return false;
            }
            whose[thing] = digit;
            place++;
            return true;
        }

        private boolean readNumber(int thing, int least, int most) {
            int number = lookForDigit();
            if (number < least) {
                return false;
            }
            place++;
            for (int i = 1; i < MOST_DIGITS; i++) {
                int digit = lookForDigit();
                // What is not taken here is told as a fault by what must follow.
                if (number == 0 || digit < 0 || 10 * number + digit > most) {
                    break;
                }
                number = 10 * number + digit;
                place++;
            }
            numbers[thing] = number;
            return true;
        }

        private boolean skip(char character) {
            if (look() != character) {
                return false;
            }
            place++;
            return true;
        }

        private int look() {
            if (place < 0 || place >= length || place >= MOST_TEXT) {
                return NO_CHARACTER;
            }
            return text[place];
        }

        /** Answers a negative number if there is no digit. */
        private int lookForDigit() {
            int character = look();
            return isWithin(character, '0', '9') ? character - '0' : NO_CHARACTER;
        }

        int doThing(int thing, State state) {
            if (!isWithin(thing, 0, MOST_TEXT - 1)) {
                return BAD_VALUE;
            }
            switch (kinds[thing]) {
                case 'h':
                    return state.changeHour(whose[thing], numbers[thing]);
                case 's':
                    return state.changeCup(whose[thing], SIZE, numbers[thing]);
                case 'f':
                    return state.pour(whose[thing], numbers[thing]);
                case 'g':
                    return state.changeGuard(whose[thing]);
                default:
                    return state.letPass(numbers[thing]);
            }
        }
    }
}
