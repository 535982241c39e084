import java.util.Arrays;

/**
 * The sentences of TEXTS that name a boundary, one test for each; the sentence
 * stands above its test.
 */
public final class TextsTest extends Fountains {
    private static final String DIGITS = "0123456789";
    private static final String STARTS = "hsfg.";
    private static final String CUPS = "01234567";
    private static final String[] TWENTY = {"g0", "g1", "g2", "g3", "g4", "g5", "g6", "g7", "g0", "g1",
        "g2", "g3", "g4", "g5", "g6", "g7", "g0", "g1", "g2", "g3"};

    public static void main(String[] args) {
        emptyAtFirst();
        sixtyAtMost();
        oneOrMore();
        betweenTwo();
        startsOfAThing();
        cupIsADigit();
        signBehindTheCup();
        nothingBehindAGuard();
        hours();
        sizes();
        water();
        ticks();
        noZeroInFront();
        noDigitTooMany();
        endsTooEarly();
        firstCharacterThatIsNotAllowed();
        otherSigns();
        checks.close("TextsTest");
    }

    private static int performed(String text) {
        return perform(new CupFountain(), text);
    }

    /**
     * Behind a beginning that is right, just these characters are allowed: any
     * other one is the fault, and behind one of these the fault is not there.
     */
    private static void allowed(String beginning, String characters) {
        for (char next = 0; next < 256; next++) {
            int answer = performed(beginning + next);
            boolean isFault = answer == -100 - beginning.length();
            due("behind \"" + beginning + "\" the character " + (int) next, isFault ? 0 : 1,
                characters.indexOf(next) < 0 ? 0 : 1);
        }
    }

    // "There is a text .., empty at first."
    private static void emptyAtFirst() {
        CupFountain x = new CupFountain();
        due("its length at first", x.count(14), 0);
        due("its fault at first", x.perform(), -100);
        due("emptied at first", x.clearText(), 0);
        due("the first character", x.type('g'), 1);
    }

    // "There is a text of at most 60 characters"
    private static void sixtyAtMost() {
        String text = ".1;.1;.1;.1;.1;.1;.1;.1;.1;.1;.1;.1;.1;.1;.1;.1;.1;.1;.1;.1";
        CupFountain x = dry();
        write(x, text);
        due("59", x.count(14), 59);
        due("59 are performed", x.perform(), 20);
        due("the 60th", x.type('0'), 60);
        due("60 are performed", x.perform(), 20);
        due("the 60th is read", x.count(0), 20 + 19 + 10);
        due("the 61st", x.type('0'), FULL);
        due("the 61st again", x.type(';'), FULL);
        due("there are 60", x.count(14), 60);
        due("the 61st is not read", x.perform(), 20);
        due("ticks", x.count(0), 20 + 2 * (19 + 10));
        due("emptied", x.clearText(), 60);
        due("there is room again", x.type('.'), 1);
        CupFountain y = dry();
        write(y, text + ';');
        due("it ends too early", y.perform(), -160);
        due("and is full", y.type('g'), FULL);
        due("still", y.perform(), -160);
    }

    // "A plan is a text: one or more of these .."
    private static void oneOrMore() {
        due("none", performed(""), -100);
        String[] one = {"h0@0", "s7=1", "f3+99", ".1"};
        for (String thing : one) {
            due("one: " + thing, performed(thing), 1);
            due("two: " + thing, performed(thing + ";" + thing), 2);
            due("three: " + thing, performed(thing + ";" + thing + ";" + thing), 3);
        }
        for (int things = 1; things <= TWENTY.length; things++) {
            CupFountain x = dry();
            for (int cup = 0; cup < 8; cup++) {
                x.setHour(cup, 5);
            }
            due("as many as fit in: " + things, perform(x, String.join(";", Arrays.copyOf(TWENTY, things))), things);
        }
    }

    // ".. with ";" between two"
    private static void betweenTwo() {
        allowed("h0@0;", STARTS);
        allowed("s0=1;", STARTS);
        allowed("f0+1;", STARTS);
        allowed("g0;", STARTS);
        allowed(".1;", STARTS);
        due("none behind the last one", performed(".1;"), -103);
        due("none before the first one", performed(";.1"), -100);
        due("not two", performed(".1;;.1"), -103);
        due("not another sign", performed(".1,.1"), -102);
        due("not without", performed(".1.1"), -102);
    }

    // "h", "s", "f", "g", "."
    private static void startsOfAThing() {
        allowed("", STARTS);
    }

    // "A cup is a digit from 0 to 7."
    private static void cupIsADigit() {
        allowed("h", CUPS);
        allowed("s", CUPS);
        allowed("f", CUPS);
        allowed("g", CUPS);
        for (int cup = 0; cup < 8; cup++) {
            CupFountain x = dry();
            due("an hour for " + cup, perform(x, "h" + cup + "@7"), 1);
            due("it is the hour of " + cup, x.cup(cup, 4), 7);
            due("a size for " + cup, perform(x, "s" + cup + "=7"), 1);
            due("it is the size of " + cup, x.cup(cup, 0), 7);
            due("water for " + cup, perform(x, "f" + cup + "+7"), 1);
            due("it is the water of " + cup, x.cup(cup, 3), 7);
            due("a guard for " + cup, perform(x, "g" + cup), 1);
            due("it is the guard of " + cup, x.cup(cup, 6), 1);
            due("it is taken off", perform(x, "g" + cup), 1);
            due("none is the guard of " + cup, x.cup(cup, 6), 0);
        }
    }

    // "@" behind the cup of an hour, "=" of a size, "+" of water
    private static void signBehindTheCup() {
        allowed("h0", "@");
        allowed("h7", "@");
        allowed("s0", "=");
        allowed("s7", "=");
        allowed("f0", "+");
        allowed("f7", "+");
    }

    // ""g" and a cup"
    private static void nothingBehindAGuard() {
        allowed("g0", ";");
        allowed("g7", ";");
    }

    // ""h", a cup, "@" and an hour (0 to 239: it is due then)"
    private static void hours() {
        for (int hour = 0; hour <= 239; hour++) {
            CupFountain x = dry();
            due("the hour " + hour, perform(x, "h5@" + hour), 1);
            due("is told", x.cup(5, 4), hour);
        }
        for (int hour = 240; hour <= 999; hour++) {
            due("no hour " + hour, performed("h5@" + hour), -105);
        }
        allowed("h5@", DIGITS);
        allowed("h5@1", DIGITS + ";");
        allowed("h5@2", DIGITS + ";");
        allowed("h5@9", DIGITS + ";");
        allowed("h5@10", DIGITS + ";");
        allowed("h5@22", DIGITS + ";");
        allowed("h5@23", DIGITS + ";");
        allowed("h5@24", ";");
        allowed("h5@99", ";");
        allowed("h5@100", ";");
        allowed("h5@239", ";");
    }

    // ""s", a cup, "=" and a size (1 to 99)"
    private static void sizes() {
        for (int size = 1; size <= 99; size++) {
            CupFountain x = dry();
            due("the size " + size, perform(x, "s5=" + size), 1);
            due("is told", x.cup(5, 0), size);
        }
        due("no size 0", performed("s5=0"), -103);
        numberTo99("s5=");
    }

    // ""f", a cup, "+" and water (1 to 99: the gardener fills it)"
    private static void water() {
        for (int water = 1; water <= 99; water++) {
            CupFountain x = dry();
            due("water " + water, perform(x, "f5+" + water), 1);
            due("is in it", x.cup(5, 3), water);
            due("by hand", x.count(6), water);
        }
        due("no water 0", performed("f5+0"), -103);
        numberTo99("f5+");
    }

    // ""." and ticks (1 to 99: they pass)"
    private static void ticks() {
        for (int ticks = 1; ticks <= 99; ticks++) {
            CupFountain x = dry();
            due("ticks " + ticks, perform(x, "." + ticks), 1);
            due("pass", x.count(0), ticks);
        }
        due("no ticks 0", performed(".0"), -101);
        numberTo99(".");
    }

    private static void numberTo99(String beginning) {
        for (int number = 100; number <= 999; number++) {
            due("no number " + beginning + number, performed(beginning + number), -100 - beginning.length() - 2);
        }
        allowed(beginning, "123456789");
        allowed(beginning + "1", DIGITS + ";");
        allowed(beginning + "9", DIGITS + ";");
        allowed(beginning + "10", ";");
        allowed(beginning + "99", ";");
    }

    // "Numbers have no zero in front, unless they are the single digit 0"
    private static void noZeroInFront() {
        due("the single digit 0", performed("h5@0"), 1);
        allowed("h5@0", ";");
        due("00", performed("h5@00"), -104);
        due("05", performed("h5@05"), -104);
        due("0 and another thing", performed("h5@0;.1"), 2);
        due("01 for a size", performed("s5=01"), -103);
        due("01 for water", performed("f5+01"), -103);
        due("01 for ticks", performed(".01"), -101);
    }

    // "a digit by which a number would be greater than told is not allowed."
    private static void noDigitTooMany() {
        due("just 239", performed("h5@239"), 1);
        due("240", performed("h5@240"), -105);
        due("2390", performed("h5@2390"), -106);
        due("1000", performed("h5@1000"), -106);
        due("just 99 for a size", performed("s5=99"), 1);
        due("990", performed("s5=990"), -105);
        due("just 99 for water", performed("f5+99"), 1);
        due("100 for water", performed("f5+100"), -105);
        due("just 99 ticks", performed(".99"), 1);
        due("999 ticks", performed(".999"), -103);
        due("a number beyond what an int holds", performed("h5@99999999999999999999"), -105);
        due("4294967297, as it were 1", performed("h5@4294967297"), -105);
    }

    // ".. or the length of the text if it ends too early (the empty text does)."
    private static void endsTooEarly() {
        String[] whole = {"h0@5", "s0=5", "f0+5", ".5", ".1;h0@5", ".1;.1;s0=5"};
        for (String text : whole) {
            due("whole: " + text, performed(text) > 0 ? 1 : 0, 1);
            String last = text.substring(text.lastIndexOf(';') + 1);
            for (int left = text.length() - last.length(); left < text.length(); left++) {
                due("cut to " + left + ": " + text, performed(text.substring(0, left)), -100 - left);
            }
        }
        due("a guard without a cup", performed("g"), -101);
        due("the empty text", performed(""), -100);
    }

    // "The fault of the text is the index, from 0, of the first character that is not allowed at its place"
    private static void firstCharacterThatIsNotAllowed() {
        due("the first of two faults", performed("h8@x"), -101);
        due("behind a thing that is right", performed("h0@5;s0=0;x"), -108);
        due("though an earlier thing is not possible", performed("g0;x"), -103);
        due("the last character", performed("f0+5;g0x"), -107);
        due("not the length, though it ends too early too", performed("h0=5;"), -102);
        due("the last of 60", performed(".1;.1;.1;.1;.1;.1;.1;.1;.1;.1;.1;.1;.1;.1;.1;.1;.1;.1;.1;.1x"), -159);
    }

    // "any character" may be typed; those that look like others are none of the plan's.
    private static void otherSigns() {
        char[] signs = {0, 0x7F, 0x80, 0xFF, 0x131, 0x661, 0x966, 0xFF11, 0xD835, 0xDFCF, 0xFFFF, '1' + 256, '1' + 0x8000};
        for (char sign : signs) {
            CupFountain x = dry();
            due("typed " + (int) sign, x.type(sign), 1);
            due("at the beginning " + (int) sign, x.perform(), -100);
            due("as a cup " + (int) sign, performed("g" + sign), -101);
            due("as a number " + (int) sign, performed("." + sign), -101);
            due("as a second digit " + (int) sign, performed(".1" + sign), -102);
        }
    }
}
