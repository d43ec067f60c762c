/** Promises 2 to 5. */
public final class TextTest {

    private static final int NONE = LongCaterpillars.NONE;

    private TextTest() {
    }

    public static void main(String[] args) {
        appends();
        refusesCharacters();
        clears();
        findsNoError();
        findsErrors();
        loads();
        leavesOutWhatWouldThrow();
        loadForgets();
        refusesToLoad();
        Check.end();
    }

    private static void appends() {
        LongCaterpillars x = new LongCaterpillars();
        Check.due("append(0)", x.append(0), 1);
        Check.due("append(255)", x.append(255), 2);
        Check.due("append('L')", x.append('L'), 3);
        for (int k = 4; k <= 120; k++) {
            Check.due("append number " + k, x.append('x'), k);
        }
        Check.dueThrow("append number 121", IllegalStateException.class, () -> x.append('x'));
        Check.dueThrow("append(256), full", IllegalArgumentException.class, () -> x.append(256));
        Check.due("clearText() of 120", x.clearText(), 120);
    }

    private static void refusesCharacters() {
        LongCaterpillars x = new LongCaterpillars();
        int[] wrong = {-1, 256, Integer.MIN_VALUE, Integer.MAX_VALUE};
        for (int c : wrong) {
            Check.dueThrow("append(" + c + ")", IllegalArgumentException.class, () -> x.append(c));
        }
        Check.due("append('L') behind refused ones", x.append('L'), 1);
    }

    private static void clears() {
        LongCaterpillars x = new LongCaterpillars();
        Check.due("clearText(), empty", x.clearText(), 0);
        Check.write(x, "Lr1");
        Check.due("clearText()", x.clearText(), 3);
        Check.due("clearText() again", x.clearText(), 0);
        Check.due("errorPosition(), cleared", x.errorPosition(), 0);
        Check.due("append, cleared", x.append('L'), 1);
        Check.due("errorPosition(), L", x.errorPosition(), NONE);
    }

    private static void error(String text, int due) {
        Check.due("errorPosition() of \"" + text + "\"", Check.withText(text).errorPosition(), due);
    }

    private static void findsNoError() {
        String[] houses = {"L", "Lh00001", "Lh35359", "Lh09195", "Lh29305", "Lt01", "Lt09", "Lt10", "Lt59", "Lt60",
            "Lx00", "Lx35", "Lx29", "Lx30", "Lr0", "Lr1", "Lr2", "Lp0", "Lp9", "Lh00351t05x07r2p0",
            "Lr0r1r2p9p9t60t60x00x00"};
        for (String text : houses) {
            error(text, NONE);
        }
        StringBuilder longest = new StringBuilder("L");
        for (int k = 0; k < 58; k++) {
            longest.append("r1");
        }
        longest.append("t6");
        error(longest.toString(), 119);
        longest.append("0");
        error(longest.toString(), NONE);
    }

    private static void findsErrors() {
        // too soon at an end
        error("", 0);
        error("Lh", 2);
        error("Lh0", 3);
        error("Lh00", 4);
        error("Lh000", 5);
        error("Lh0000", 6);
        error("Lt", 2);
        error("Lt0", 3);
        error("Lx", 2);
        error("Lx3", 3);
        error("Lr", 2);
        error("Lp", 2);
        error("Lr1h0000", 8);
        // a character that is not allowed
        error("l", 0);
        error("LL", 1);
        error("h00001", 0);
        error(" L", 0);
        error("L ", 1);
        error("Lq", 1);
        error("L0", 1);
        error("L" + (char) 255, 1);
        error("Lr0" + (char) 0, 3);
        error("Lh4", 2);
        error("Lh36", 3);
        error("Lh39", 3);
        error("Lh004", 4);
        error("Lh0036", 5);
        error("Lh00000", 6);
        error("Lh0000a", 6);
        error("Lh0000:", 6);
        error("Lh:", 2);
        error("Lh/", 2);
        error("Lh0:", 3);
        error("Lt7", 2);
        error("Lt00", 3);
        error("Lt61", 3);
        error("Lt69", 3);
        error("Lt0a", 3);
        error("Lt0:", 3);
        error("Lt1:", 3);
        error("Lt5/", 3);
        error("Lx2:", 3);
        error("Lx4", 2);
        error("Lx36", 3);
        error("Lx3t", 3);
        error("Lr3", 2);
        error("Lr9", 2);
        error("Lpp", 2);
        error("Lp:", 2);
        error("Lr00", 3);
        error("Lr0R", 3);
        // the first of several
        error("Lx00r3t99", 5);
    }

    private static void loads() {
        LongCaterpillars x = Check.withText("Lh00033t02r1x35h14269p1");
        Check.due("load()", x.load(), 0);
        Check.due("about(0)", x.about(0), 2);
        Check.due("about(2)", x.about(2), 1);
        Check.due("about(4)", x.about(4), 1);
        Check.due("about(5)", x.about(5), 2);
        Check.due("about(8)", x.about(8), 1);
        Check.due("lies(0, 0)", x.lies(0, 0), 1);
        Check.due("caterpillar(0, 7)", x.caterpillar(0, 7), 3);
        Check.due("caterpillar(0, 8)", x.caterpillar(0, 8), 3);
        Check.due("caterpillar(1, 6)", x.caterpillar(1, 6), 14);
        Check.due("caterpillar(1, 7)", x.caterpillar(1, 7), 26);
        Check.due("caterpillar(1, 8)", x.caterpillar(1, 8), 9);
        Check.due("room(35, 1)", x.room(35, 1), 1);
        Check.due("about(7)", x.about(7), 1);
        Check.due("load() again", x.load(), 0);
        Check.due("about(0), loaded again", x.about(0), 2);
        Check.due("about(5), loaded again", x.about(5), 2);
        Check.due("the text is kept", x.clearText(), 23);
        Check.due("the house stays", x.about(0), 2);
    }

    private static void leavesOutWhatWouldThrow() {
        // x00 before its head is out shuts the room, behind p0 again; p5 and the second p0 are left out
        LongCaterpillars x = Check.withText("Lh00351x00t01x00r2p5p0p0");
        Check.due("load()", x.load(), 2);
        Check.due("about(9)", x.about(9), 1);
        Check.due("about(4)", x.about(4), 1);
        // a taken room, and a gone caterpillar
        LongCaterpillars y = Check.withText("Lh00001t01x00t01p0x00");
        Check.due("load() with a taken room", y.load(), 2);
        Check.due("room(0, 1)", y.room(0, 1), 1);
        // eleven, of which one is too many
        LongCaterpillars z = Check.withText("Lh00011h00011h00011h00011h00011h00011h00011h00011h00011h00011h00011p9");
        Check.due("load() with eleven", z.load(), 1);
        Check.due("about(0)", z.about(0), 10);
        Check.due("about(4) of eleven", z.about(4), 1);
        Check.due("load() of L", Check.withText("L").load(), 0);
    }

    private static void loadForgets() {
        LongCaterpillars x = Check.withText("Lr1");
        x.hatch(0, 1, 2);
        x.shut(9, true);
        x.ticks(3);
        x.save(0);
        x.save(1);
        Check.due("load()", x.load(), 0);
        Check.due("about(0)", x.about(0), 0);
        Check.due("about(5)", x.about(5), 0);
        Check.due("about(7)", x.about(7), 0);
        Check.due("about(8)", x.about(8), 1);
        Check.dueThrow("undo()", IllegalStateException.class, x::undo);
        Check.dueThrow("restore(0)", IllegalStateException.class, () -> x.restore(0));
        Check.dueThrow("restore(1)", IllegalStateException.class, () -> x.restore(1));
    }

    private static void refusesToLoad() {
        LongCaterpillars x = new LongCaterpillars();
        x.hatch(7, 8, 2);
        x.save(1);
        Check.dueThrow("load(), empty text", IllegalStateException.class, x::load);
        Check.write(x, "Lt0");
        Check.dueThrow("load(), ends too soon", IllegalStateException.class, x::load);
        x.append('0');
        Check.dueThrow("load(), wrong digit", IllegalStateException.class, x::load);
        Check.due("about(0), nothing changed", x.about(0), 1);
        Check.due("restore(1), nothing changed", x.restore(1), 0);
    }
}
