/** The sentences of "Terms", TEXT, and of promises 2 to 5 that name a boundary case, a test for each. */
public final class EdgesOfTextTest {

    private static final int NONE = LongCaterpillars.NONE;
    private static final int MOST = 120;

    private EdgesOfTextTest() {
    }

    public static void main(String[] args) {
        Check.sentence("a text buffer of at most 120 characters", EdgesOfTextTest::atMost120);
        Check.sentence("the letter L, and then any number of commands", EdgesOfTextTest::numberOfCommands);
        Check.sentence("a room is two digits (00 to 35)", EdgesOfTextTest::rooms);
        Check.sentence("a digit for a length (1 to 9)", EdgesOfTextTest::lengths);
        Check.sentence("t and two digits (01 to 60)", EdgesOfTextTest::ticks);
        Check.sentence("r and a digit (0 to 2)", EdgesOfTextTest::rules);
        Check.sentence("p and a digit for a caterpillar", EdgesOfTextTest::pulls);
        Check.sentence("Commands that would throw an exception are left out", EdgesOfTextTest::leftOut);
        Check.sentence("There are no blanks", EdgesOfTextTest::noBlanks);
        Check.sentence("The text is read from left to right", EdgesOfTextTest::fromLeftToRight);
        Check.sentence("the index of the first character that these rules do not allow at its place",
                EdgesOfTextTest::everyCharacter);
        Check.sentence("a digit is not allowed if no number that is allowed begins with it and those before it",
                EdgesOfTextTest::digitsThatBeginNoNumber);
        Check.sentence("if the text ends too soon, it is the length of the text", EdgesOfTextTest::endsTooSoon);
        Check.sentence("2: c: character code, 0 to 255", EdgesOfTextTest::characterCodes);
        Check.sentence("2: Returns the new length of the text", EdgesOfTextTest::newLength);
        Check.sentence("2: IllegalArgumentException if c is out of range", EdgesOfTextTest::codesOutOfRange);
        Check.sentence("2: IllegalStateException if the text already has 120 characters", EdgesOfTextTest::full);
        Check.sentence("3: Empties the text buffer", EdgesOfTextTest::empties);
        Check.sentence("3: Returns the previous length of the text", EdgesOfTextTest::previousLength);
        Check.sentence("4: Returns NONE if it is a house", EdgesOfTextTest::isAHouse);
        Check.sentence("5: Makes everything as in a new object", EdgesOfTextTest::asInANewObject);
        Check.sentence("5: and then does the commands of the text", EdgesOfTextTest::doesTheCommands);
        Check.sentence("5: Behind it no state is remembered", EdgesOfTextTest::noStateIsRemembered);
        Check.sentence("5: and both save slots are empty", EdgesOfTextTest::slotsAreEmpty);
        Check.sentence("5: Keeps the text", EdgesOfTextTest::keepsTheText);
        Check.sentence("5: Returns the number of commands that are left out", EdgesOfTextTest::numberLeftOut);
        Check.sentence("5: IllegalStateException if the text is not a house", EdgesOfTextTest::notAHouse);
        Check.end();
    }

    private static void error(String text, int due) {
        Check.due("errorPosition() of \"" + text + "\"", Check.withText(text).errorPosition(), due);
    }

    /** A house of 120 characters: L, one tick, and 58 times the rule 1. */
    private static String longestHouse() {
        return "Lt01" + "r1".repeat(58);
    }

    private static void atMost120() {
        LongCaterpillars x = Check.withText(longestHouse());
        Check.due("errorPosition() of 120 characters", x.errorPosition(), NONE);
        Check.notNow("append number 121", () -> x.append('r'));
        Check.due("errorPosition() behind it", x.errorPosition(), NONE);
        Check.due("load() of 120 characters", x.load(), 0);
        Check.due("about(5)", x.about(5), 1);
        Check.due("about(8)", x.about(8), 1);
        // a wrong character in the last place
        String wrong = longestHouse().substring(0, MOST - 1);
        error(wrong + "3", MOST - 1);
        error(wrong + "r", MOST - 1);
    }

    private static void numberOfCommands() {
        error("L", NONE);
        error("Lp0", NONE);
        error("L" + "r0".repeat(59), NONE);
        error("LL", 1);
        error("Lp0L", 3);
        LongCaterpillars x = Check.withText("L" + "h00001".repeat(10) + "t01".repeat(10) + "p9x11r1");
        Check.due("load() of 23 commands", x.load(), 0);
        Check.due("about(0)", x.about(0), 10);
        Check.due("about(5)", x.about(5), 10);
        Check.due("about(4)", x.about(4), 1);
        Check.due("about(7)", x.about(7), 1);
        Check.due("about(8)", x.about(8), 1);
    }

    private static String two(int number) {
        return (number < 10 ? "0" : "") + number;
    }

    /** All pairs of digits at a place; those from lowest to highest are allowed. */
    private static void pairs(String before, String behind, int lowest, int highest) {
        for (int number = 0; number < 100; number++) {
            int due = NONE;
            if (number < lowest || number > highest) {
                due = before.length() + (number / 10 > highest / 10 ? 0 : 1);
            }
            error(before + two(number) + behind, due);
        }
    }

    private static void rooms() {
        pairs("Lx", "", 0, 35);
        pairs("Lh", "001", 0, 35);
        pairs("Lh00", "1", 0, 35);
        pairs("Lp0x", "p0", 0, 35);
        for (int k = 0; k < 36; k++) {
            LongCaterpillars x = Check.house("Lx" + two(k) + "h" + two(k) + two(35 - k) + "1");
            Check.due("x" + two(k), x.room(k, 1), 1);
            Check.due("crack of h" + two(k), x.caterpillar(0, 6), k);
            Check.due("leaf of h.." + two(35 - k), x.caterpillar(0, 7), 35 - k);
        }
    }

    /** All digits at the last place of a command; those from lowest to highest are allowed. */
    private static void digits(String before, int lowest, int highest) {
        for (int digit = 0; digit < 10; digit++) {
            boolean allowed = digit >= lowest && digit <= highest;
            error(before + digit, allowed ? NONE : before.length());
        }
    }

    private static void lengths() {
        digits("Lh0035", 1, 9);
        digits("Lh3500", 1, 9);
        for (int length = 1; length <= 9; length++) {
            Check.due("h0000" + length, Check.house("Lh0000" + length).caterpillar(0, 8), length);
        }
    }

    private static void ticks() {
        pairs("Lt", "", 1, 60);
        pairs("Lr0t", "r0", 1, 60);
        for (int n = 1; n <= 60; n++) {
            Check.due("t" + two(n), Check.house("Lt" + two(n)).about(5), n);
        }
    }

    private static void rules() {
        digits("Lr", 0, 2);
        digits("Lr2r", 0, 2);
        for (int rule = 0; rule <= 2; rule++) {
            Check.due("r" + rule, Check.house("Lr" + (rule + 1) % 3 + "r" + rule).about(8), rule);
        }
    }

    private static void pulls() {
        digits("Lp", 0, 9);
        for (int i = 0; i < 10; i++) {
            LongCaterpillars x = Check.house("L" + "h00001".repeat(10) + "p" + i);
            Check.due("p" + i, x.caterpillar(i, 0), 3);
            Check.due("p" + i + ": about(4)", x.about(4), 1);
        }
    }

    private static void left(String text, int due) {
        Check.due("load() of " + text, Check.withText(text).load(), due);
    }

    private static void leftOut() {
        // the eleventh caterpillar, though one of the ten is gone or pulled
        left("L" + "h00001".repeat(10), 0);
        left("L" + "h00001".repeat(11), 1);
        left("L" + "h00001".repeat(10) + "p0h00001", 1);
        left("L" + "h00001".repeat(10) + "t02h00001", 1);
        // a room that is taken; one that is not taken any more, or not yet, or shut already
        left("Lh00051t01x00", 1);
        left("Lh00051t02x00", 0);
        left("Lh00051x00", 0);
        left("Lx00x00", 0);
        // no such caterpillar, not yet, gone, pulled
        left("Lp0", 1);
        left("Lp0h00001", 1);
        left("Lh00001p1", 1);
        left("Lh00001p0", 0);
        left("Lh00001t01p0", 0);
        left("Lh00001t02p0", 1);
        left("Lh00001p0p0", 1);
        // what is left out does nothing, and what is behind it is done
        LongCaterpillars x = Check.house("Lh00051t01x00p1t01x00r2");
        Check.due("behind what is left out: about(5)", x.about(5), 2);
        Check.due("behind what is left out: about(7)", x.about(7), 1);
        Check.due("behind what is left out: about(8)", x.about(8), 2);
        Check.due("behind what is left out: lies(0, 0)", x.lies(0, 0), 1);
    }

    private static void noBlanks() {
        String house = "Lh00351t05x07r2p0";
        for (int k = 0; k <= house.length(); k++) {
            error(house.substring(0, k) + " " + house.substring(k), k);
        }
    }

    private static void fromLeftToRight() {
        // the first of several errors
        error("Lr3t00x99", 2);
        error("Lr0t00x99", 5);
        error("Lr0t01x99", 7);
        error("Lr3h00", 2);
        // the commands are done in their order
        LongCaterpillars x = Check.house("Lt01h00011t02r1h00351t03r0t01");
        Check.due("in their order: caterpillar(0, 4)", x.caterpillar(0, 4), 0);
        Check.due("in their order: caterpillar(0, 5)", x.caterpillar(0, 5), 4);
        Check.due("in their order: about(5)", x.about(5), 7);
        Check.due("in their order: lies(1, 0)", x.lies(1, 0), 13);
    }

    /** All characters at a place: those that are allowed give no error there. */
    private static void characters(String before, String allowed) {
        LongCaterpillars x = new LongCaterpillars();
        for (int c = 0; c <= 255; c++) {
            if (c % 100 == 0) {
                x = new LongCaterpillars();
            }
            x.clearText();
            Check.write(x, before);
            x.append(c);
            boolean wrong = x.errorPosition() == before.length();
            Check.due("character " + c + " behind \"" + before + "\" is an error", wrong ? 1 : 0,
                    allowed.indexOf(c) < 0 ? 1 : 0);
        }
    }

    private static void everyCharacter() {
        characters("", "L");
        characters("L", "htxrp");
        characters("Lp0", "htxrp");
        characters("Lh00351", "htxrp");
        characters("Lh", "0123");
        characters("Lh2", "0123456789");
        characters("Lh3", "012345");
        characters("Lh00", "0123");
        characters("Lh001", "0123456789");
        characters("Lh003", "012345");
        characters("Lh0035", "123456789");
        characters("Lt", "0123456");
        characters("Lt0", "123456789");
        characters("Lt1", "0123456789");
        characters("Lt5", "0123456789");
        characters("Lt6", "0");
        characters("Lx", "0123");
        characters("Lx0", "0123456789");
        characters("Lx3", "012345");
        characters("Lr", "012");
        characters("Lp", "0123456789");
    }

    private static void digitsThatBeginNoNumber() {
        // 4 begins no room, 3 does, but 36 is none
        error("Lx4", 2);
        error("Lx40", 2);
        error("Lx3", 3);
        error("Lx36", 3);
        error("Lx36r9", 3);
        // 7 begins no number of ticks, 0 and 6 do, but 00 and 61 are none
        error("Lt7", 2);
        error("Lt70", 2);
        error("Lt0", 3);
        error("Lt00", 3);
        error("Lt6", 3);
        error("Lt61", 3);
        // a room behind a room that ends with 3: its first digit is looked at alone
        error("Lh0339", 5);
        error("Lh03291", NONE);
        error("Lh3036", 5);
    }

    private static void endsTooSoon() {
        error("", 0);
        String[] commands = {"h00351", "t60", "x35", "r2", "p9"};
        for (String command : commands) {
            for (int k = 1; k < command.length(); k++) {
                error("L" + command.substring(0, k), 1 + k);
                error("Lp0" + command.substring(0, k), 3 + k);
            }
            error("L" + command, NONE);
        }
        error(longestHouse().substring(0, MOST - 1), MOST - 1);
        error("L" + "r0".repeat(59) + "p", MOST);
        error("L" + "r0".repeat(58) + "x00", NONE);
        error("L" + "r0".repeat(58) + "xx0", MOST - 2);
        error("L" + "r0".repeat(57) + "p0" + "h00", MOST);
    }

    private static void characterCodes() {
        LongCaterpillars x = new LongCaterpillars();
        for (int c = 0; c < MOST; c++) {
            Check.due("append(" + c + ")", x.append(c), c + 1);
        }
        x.clearText();
        for (int c = 255; c > 255 - MOST; c--) {
            Check.due("append(" + c + ")", x.append(c), 256 - c);
        }
        x.clearText();
        Check.due("append('L' + 256) is no L", outcomeOfLarge(x), 0);
    }

    private static int outcomeOfLarge(LongCaterpillars x) {
        Check.refused("append('L' + 256)", () -> x.append('L' + 256));
        return x.clearText();
    }

    private static void newLength() {
        LongCaterpillars x = new LongCaterpillars();
        for (int length = 1; length <= MOST; length++) {
            Check.due("append number " + length, x.append('0'), length);
        }
        x.clearText();
        Check.due("append, emptied", x.append('0'), 1);
    }

    private static void codesOutOfRange() {
        LongCaterpillars x = new LongCaterpillars();
        for (int c : new int[] {-1, 256, -256, 65_536, Integer.MIN_VALUE, Integer.MAX_VALUE}) {
            Check.refused("append(" + c + ")", () -> x.append(c));
        }
        Check.due("append(255) behind them", x.append(255), 1);
    }

    private static void full() {
        LongCaterpillars x = new LongCaterpillars();
        for (int length = 1; length <= MOST; length++) {
            x.append('L');
        }
        Check.notNow("append('L'), 120", () -> x.append('L'));
        Check.notNow("append(0), 120", () -> x.append(0));
        Check.notNow("append(255), 120", () -> x.append(255));
        Check.due("clearText()", x.clearText(), MOST);
        Check.due("append, emptied", x.append('L'), 1);
    }

    private static void empties() {
        LongCaterpillars x = Check.withText("Lr1");
        x.clearText();
        Check.due("errorPosition(), emptied", x.errorPosition(), 0);
        Check.notNow("load(), emptied", x::load);
        x.append('r');
        Check.due("errorPosition(), another text", x.errorPosition(), 0);
        x.clearText();
        Check.write(x, "L");
        Check.due("errorPosition(), L alone again", x.errorPosition(), NONE);
        // a shorter text behind a longer one ends where it ends
        LongCaterpillars y = Check.withText("Lh00351");
        y.clearText();
        Check.write(y, "Lh00");
        Check.due("errorPosition(), a shorter one", y.errorPosition(), 4);
    }

    private static void previousLength() {
        LongCaterpillars x = new LongCaterpillars();
        Check.due("clearText(), empty", x.clearText(), 0);
        x.append('L');
        Check.due("clearText(), one character", x.clearText(), 1);
        Check.due("clearText() again", x.clearText(), 0);
        Check.write(x, longestHouse());
        Check.due("clearText(), full", x.clearText(), MOST);
    }

    private static void isAHouse() {
        error("L", NONE);
        error("Lh00001t01x00r0p0", NONE);
        error("Lh35359t60x35r2p9", NONE);
        error(longestHouse(), NONE);
        // commands that will be left out are none the less right
        error("Lp9p9", NONE);
        error("l", 0);
        error("L" + (char) 0, 1);
    }

    private static void asInANewObject() {
        LongCaterpillars x = Check.withText("L");
        for (int i = 0; i < 10; i++) {
            x.hatch(i, 35 - i, 9);
        }
        x.rule(2);
        x.ticks(9);
        x.pull(3);
        x.shut(35, x.room(35, 0) == NONE);
        Check.due("load()", x.load(), 0);
        String due = Reading.state(new LongCaterpillars());
        Check.dueState("loaded, L alone", x, due);
        Check.due("hatch(0, 0, 1)", x.hatch(0, 0, 1), 0);
        Check.due("ticks(2)", x.ticks(2), 1);
        Check.due("caterpillar(0, 5)", x.caterpillar(0, 5), 2);
    }

    private static void doesTheCommands() {
        LongCaterpillars x = Check.house("Lr2x35h00019t02h35009p1");
        LongCaterpillars y = new LongCaterpillars();
        y.rule(2);
        y.shut(35, true);
        y.hatch(0, 1, 9);
        y.ticks(2);
        y.hatch(35, 0, 9);
        y.pull(1);
        String due = Reading.state(y);
        Check.dueState("loaded once, as done by the calls", x, due);
        x.load();
        Check.dueState("loaded twice, as done by the calls", x, due);
    }

    private static void noStateIsRemembered() {
        LongCaterpillars x = Check.withText("Lh00001t01r1x35p0");
        for (int k = 0; k < 20; k++) {
            x.ticks(1);
        }
        x.load();
        Check.notNow("undo() behind load", x::undo);
        x.rule(2);
        Check.due("undo() of what came behind", x.undo(), 0);
        Check.due("about(8), as loaded", x.about(8), 1);
        Check.notNow("undo() once more", x::undo);
    }

    private static void slotsAreEmpty() {
        LongCaterpillars x = Check.withText("Lt07");
        x.save(0);
        x.save(1);
        x.load();
        Check.notNow("restore(0) behind load", () -> x.restore(0));
        Check.notNow("restore(1) behind load", () -> x.restore(1));
        Check.due("save(1)", x.save(1), 7);
        Check.due("restore(1), saved since", x.restore(1), 7);
        Check.notNow("restore(0), not saved since", () -> x.restore(0));
    }

    private static void keepsTheText() {
        LongCaterpillars x = Check.withText("Lt07");
        x.load();
        Check.due("errorPosition() behind load", x.errorPosition(), NONE);
        Check.due("append behind load", x.append('p'), 5);
        x.append('0');
        Check.due("load() of the longer text", x.load(), 1);
        Check.due("clearText()", x.clearText(), 6);
        LongCaterpillars y = Check.withText(longestHouse());
        y.load();
        Check.due("clearText() of 120", y.clearText(), MOST);
    }

    private static void numberLeftOut() {
        left("L", 0);
        left("Lt01", 0);
        left("Lp0p0", 2);
        left("L" + "p0".repeat(59), 59);
        left("L" + "h35351".repeat(19), 9);
        left("Lh00009t01" + "x00".repeat(36), 36);
        left("Lp0x00p0x00p0", 3);
    }

    private static void notAHouse() {
        String[] texts = {"", "l", "Lh", "Lh0000", "Lh00000", "Lt00", "Lt61", "Lx36", "Lr3", "Lp", "Lr0 ", "LL"};
        for (String text : texts) {
            LongCaterpillars x = Check.withText(text);
            x.hatch(35, 0, 3);
            x.ticks(1);
            x.save(1);
            Check.notNow("load() of \"" + text + "\"", x::load);
            Check.due("about(0) behind it", x.about(0), 1);
            Check.due("undo() behind it", x.undo(), 1);
            Check.due("restore(1) behind it", x.restore(1), 1);
            Check.due("clearText() behind it", x.clearText(), text.length());
        }
        LongCaterpillars y = Check.withText(longestHouse().substring(0, MOST - 1) + "r");
        Check.notNow("load() of 120 characters, the last wrong", y::load);
    }
}
