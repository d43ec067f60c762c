/** Promises 13 to 18. */
public final class ActionsTest {

    private static final int NONE = LongCaterpillars.NONE;

    private ActionsTest() {
    }

    public static void main(String[] args) {
        hatches();
        refusesToHatch();
        letsTicksGoBy();
        actsByTheNumbers();
        refusesTicks();
        changesTheRule();
        ruleIsTakenUnderWay();
        shuts();
        aShutRoomStopsThem();
        pulls();
        refusesToPull();
        undoes();
        remembersFourteen();
        refusedCallsAreNoActions();
        undoneIsGone();
        Check.end();
    }

    private static void hatches() {
        LongCaterpillars x = new LongCaterpillars();
        x.shut(0, true);
        for (int i = 0; i < 10; i++) {
            Check.due("hatch number " + i, x.hatch(i % 2 * 35, 35 - i, 1 + i % 9), i);
        }
        Check.due("about(0)", x.about(0), 10);
        Check.due("about(1)", x.about(1), 10);
        Check.due("about(6)", x.about(6), 0);
        Check.due("caterpillar(3, 6)", x.caterpillar(3, 6), 35);
        Check.due("caterpillar(3, 7)", x.caterpillar(3, 7), 32);
        Check.due("caterpillar(3, 8)", x.caterpillar(3, 8), 4);
        Check.due("caterpillar(3, 2)", x.caterpillar(3, 2), 4);
    }

    private static void refusesToHatch() {
        LongCaterpillars x = new LongCaterpillars();
        Check.dueThrow("hatch(-1, 0, 1)", IndexOutOfBoundsException.class, () -> x.hatch(-1, 0, 1));
        Check.dueThrow("hatch(36, 0, 1)", IndexOutOfBoundsException.class, () -> x.hatch(36, 0, 1));
        Check.dueThrow("hatch(0, -1, 1)", IndexOutOfBoundsException.class, () -> x.hatch(0, -1, 1));
        Check.dueThrow("hatch(0, 36, 1)", IndexOutOfBoundsException.class, () -> x.hatch(0, 36, 1));
        Check.dueThrow("hatch(0, 0, 0)", IllegalArgumentException.class, () -> x.hatch(0, 0, 0));
        Check.dueThrow("hatch(0, 0, 10)", IllegalArgumentException.class, () -> x.hatch(0, 0, 10));
        Check.dueThrow("hatch(0, 0, -1)", IllegalArgumentException.class, () -> x.hatch(0, 0, -1));
        Check.dueThrow("hatch(36, 0, 0)", IndexOutOfBoundsException.class, () -> x.hatch(36, 0, 0));
        Check.due("about(0)", x.about(0), 0);
        for (int i = 0; i < 10; i++) {
            x.hatch(0, 0, 9);
        }
        Check.dueThrow("hatch number 11", IllegalStateException.class, () -> x.hatch(0, 0, 1));
        Check.dueThrow("hatch number 11, length", IllegalArgumentException.class, () -> x.hatch(0, 0, 0));
        Check.dueThrow("hatch number 11, room", IndexOutOfBoundsException.class, () -> x.hatch(0, 36, 0));
        // the pulled and the gone ones count
        x.pull(3);
        Check.dueThrow("hatch number 11, one pulled", IllegalStateException.class, () -> x.hatch(0, 0, 1));
    }

    private static void letsTicksGoBy() {
        LongCaterpillars x = Check.house("Lh00033h12121h35302");
        Check.due("ticks(1)", x.ticks(1), 0);
        Check.due("ticks(1) again", x.ticks(1), 1);
        Check.due("ticks(6)", x.ticks(6), 2);
        Check.due("ticks(60)", x.ticks(60), 0);
        Check.due("about(5)", x.about(5), 68);
        Check.due("caterpillar(0, 5)", x.caterpillar(0, 5), 7);
        Check.due("caterpillar(1, 5)", x.caterpillar(1, 5), 2);
        Check.due("caterpillar(2, 5)", x.caterpillar(2, 5), 8);
        LongCaterpillars y = new LongCaterpillars();
        Check.due("ticks(60), empty", y.ticks(60), 0);
        y.hatch(0, 0, 1);
        Check.due("ticks(60), one", y.ticks(60), 1);
        Check.due("caterpillar(0, 5), late", y.caterpillar(0, 5), 62);
    }

    private static void actsByTheNumbers() {
        // 1 stands in the way of 0 at the beginning of the tick, and moves behind it only
        LongCaterpillars x = Check.house("Lh01041h02051t02");
        Check.due("0 before 1: caterpillar(0, 4)", x.caterpillar(0, 4), 1);
        Check.due("0 before 1: lies(0, 0)", x.lies(0, 0), 1);
        Check.due("0 before 1: lies(1, 0)", x.lies(1, 0), 3);
        LongCaterpillars y = Check.house("Lh02051h01041t02");
        Check.due("1 behind 0: caterpillar(1, 4)", y.caterpillar(1, 4), 0);
        Check.due("1 behind 0: lies(1, 0)", y.lies(1, 0), 2);
        Check.due("1 behind 0: lies(0, 0)", y.lies(0, 0), 3);
    }

    private static void refusesTicks() {
        LongCaterpillars x = new LongCaterpillars();
        for (int n : new int[] {0, -1, 61, Integer.MIN_VALUE, Integer.MAX_VALUE}) {
            Check.dueThrow("ticks(" + n + ")", IllegalArgumentException.class, () -> x.ticks(n));
        }
        Check.due("about(5)", x.about(5), 0);
    }

    private static void changesTheRule() {
        LongCaterpillars x = new LongCaterpillars();
        Check.due("rule(1)", x.rule(1), 0);
        Check.due("rule(2)", x.rule(2), 1);
        Check.due("rule(2) again", x.rule(2), 2);
        Check.due("rule(0)", x.rule(0), 2);
        Check.due("about(8)", x.about(8), 0);
        for (int rule : new int[] {-1, 3, Integer.MIN_VALUE, Integer.MAX_VALUE}) {
            Check.dueThrow("rule(" + rule + ")", IllegalArgumentException.class, () -> x.rule(rule));
        }
        Check.due("undo()", x.undo(), 3);
        Check.due("about(8), undone", x.about(8), 2);
    }

    private static void ruleIsTakenUnderWay() {
        LongCaterpillars x = Check.house("Lh00355t03r1t03r0t01");
        int[] due = {21, 20, 14, 8, 2};
        for (int k = 0; k < due.length; k++) {
            Check.due("under way: lies(0, " + k + ")", x.lies(0, k), due[k]);
        }
    }

    private static void shuts() {
        LongCaterpillars x = new LongCaterpillars();
        Check.due("shut(0, true)", x.shut(0, true), 1);
        Check.due("shut(35, true)", x.shut(35, true), 2);
        Check.due("shut(35, true) again", x.shut(35, true), 2);
        Check.due("shut(1, false), open", x.shut(1, false), 2);
        Check.due("shut(0, false)", x.shut(0, false), 1);
        Check.due("room(0, 1)", x.room(0, 1), 0);
        Check.due("room(35, 1)", x.room(35, 1), 1);
        Check.dueThrow("shut(36, true)", IndexOutOfBoundsException.class, () -> x.shut(36, true));
        Check.dueThrow("shut(-1, false)", IndexOutOfBoundsException.class, () -> x.shut(-1, false));
        x.hatch(7, 9, 2);
        Check.due("shut(7, true), a crack only", x.shut(7, true), 2);
        Check.due("shut(7, false)", x.shut(7, false), 1);
        x.ticks(2);
        Check.dueThrow("shut(7, true), taken", IllegalStateException.class, () -> x.shut(7, true));
        Check.dueThrow("shut(8, true), taken", IllegalStateException.class, () -> x.shut(8, true));
        Check.due("shut(8, false), taken", x.shut(8, false), 1);
        Check.due("shut(9, true)", x.shut(9, true), 2);
    }

    private static void aShutRoomStopsThem() {
        LongCaterpillars x = new LongCaterpillars();
        x.shut(0, true);
        x.hatch(0, 2, 2);
        x.ticks(3);
        Check.due("shut crack: caterpillar(0, 0)", x.caterpillar(0, 0), 0);
        Check.due("shut crack: caterpillar(0, 4)", x.caterpillar(0, 4), 3);
        x.shut(0, false);
        x.shut(1, true);
        x.ticks(3);
        Check.due("shut way: lies(0, 0)", x.lies(0, 0), 0);
        Check.due("shut way: caterpillar(0, 4)", x.caterpillar(0, 4), 5);
        Check.due("shut way: caterpillar(0, 2)", x.caterpillar(0, 2), 1);
        x.shut(1, false);
        Check.due("opened: ticks(4)", x.ticks(4), 1);
        Check.due("opened: caterpillar(0, 5)", x.caterpillar(0, 5), 10);
        Check.due("opened: about(9)", x.about(9), 5);
    }

    private static void pulls() {
        LongCaterpillars x = Check.house("Lh00059h30303h12151t04");
        Check.due("pull(0)", x.pull(0), 4);
        for (int k = 0; k < 5; k++) {
            Check.due("pulled: room(" + k + ", 0)", x.room(k, 0), NONE);
        }
        Check.due("pulled: room(15, 0) of another", x.room(15, 0), 2);
        Check.due("pulled: about(6)", x.about(6), 1);
        int[] due = {3, 0, 0, 0, 0, NONE, 0, 5, 9};
        for (int what = 0; what < due.length; what++) {
            Check.due("pulled: caterpillar(0, " + what + ")", x.caterpillar(0, what), due[what]);
        }
        Check.dueThrow("pulled: lies(0, 0)", IndexOutOfBoundsException.class, () -> x.lies(0, 0));
        Check.due("pulled: next(0)", x.next(0), NONE);
        x.hatch(3, 3, 4);
        Check.due("pull(3), in its crack", x.pull(3), 0);
        Check.due("pull(3): caterpillar(3, 2)", x.caterpillar(3, 2), 0);
        x.hatch(9, 8, 3);
        x.ticks(3);
        Check.due("pull(4), one part has eaten", x.pull(4), 2);
        Check.due("pull(4): caterpillar(4, 3)", x.caterpillar(4, 3), 1);
        x.ticks(5);
        Check.due("a pulled one does nothing more", x.caterpillar(0, 0), 3);
        Check.due("a pulled one waits no more", x.caterpillar(3, 4), 0);
    }

    private static void refusesToPull() {
        LongCaterpillars x = Check.house("Lh00001h07081t02");
        Check.dueThrow("pull(2)", IndexOutOfBoundsException.class, () -> x.pull(2));
        Check.dueThrow("pull(-1)", IndexOutOfBoundsException.class, () -> x.pull(-1));
        Check.dueThrow("pull(0), gone", IllegalStateException.class, () -> x.pull(0));
        x.pull(1);
        Check.dueThrow("pull(1), pulled", IllegalStateException.class, () -> x.pull(1));
        Check.due("undo()", x.undo(), 0);
        Check.due("caterpillar(1, 0), undone", x.caterpillar(1, 0), 1);
        Check.due("lies(1, 0), undone", x.lies(1, 0), 8);
        Check.due("room(8, 0), undone", x.room(8, 0), 1);
    }

    private static void undoes() {
        LongCaterpillars x = new LongCaterpillars();
        x.hatch(0, 3, 2);
        x.ticks(2);
        x.rule(1);
        x.shut(20, true);
        x.pull(0);
        x.append('L');
        Check.due("undo() of pull", x.undo(), 4);
        Check.due("about(4)", x.about(4), 0);
        Check.due("lies(0, 1)", x.lies(0, 1), 0);
        Check.due("undo() of shut", x.undo(), 3);
        Check.due("about(7)", x.about(7), 0);
        Check.due("undo() of rule", x.undo(), 2);
        Check.due("about(8)", x.about(8), 0);
        Check.due("undo() of ticks", x.undo(), 1);
        Check.due("about(5)", x.about(5), 0);
        Check.due("about(6)", x.about(6), 0);
        Check.due("caterpillar(0, 0)", x.caterpillar(0, 0), 0);
        Check.due("undo() of hatch", x.undo(), 0);
        Check.due("about(0)", x.about(0), 0);
        Check.dueThrow("undo(), none remembered", IllegalStateException.class, x::undo);
        Check.due("the text is kept", x.clearText(), 1);
    }

    private static void remembersFourteen() {
        LongCaterpillars x = new LongCaterpillars();
        for (int k = 1; k <= 16; k++) {
            x.ticks(k);
        }
        for (int k = 13; k >= 0; k--) {
            Check.due("undo(), " + k + " left", x.undo(), k);
            Check.due("about(5), " + k + " left", x.about(5), (k + 2) * (k + 3) / 2);
        }
        Check.dueThrow("undo() number 15", IllegalStateException.class, x::undo);
        // what becomes no different is an action as well
        x.rule(0);
        x.shut(5, false);
        Check.due("undo() of nothing", x.undo(), 1);
        Check.due("undo() of nothing again", x.undo(), 0);
    }

    private static void refusedCallsAreNoActions() {
        LongCaterpillars x = new LongCaterpillars();
        x.hatch(0, 0, 2);
        x.ticks(1);
        Check.dueThrow("hatch", IndexOutOfBoundsException.class, () -> x.hatch(0, 99, 2));
        Check.dueThrow("ticks", IllegalArgumentException.class, () -> x.ticks(0));
        Check.dueThrow("rule", IllegalArgumentException.class, () -> x.rule(3));
        Check.dueThrow("shut", IllegalStateException.class, () -> x.shut(0, true));
        Check.dueThrow("pull", IndexOutOfBoundsException.class, () -> x.pull(1));
        Check.due("undo()", x.undo(), 1);
        Check.due("about(5)", x.about(5), 0);
    }

    private static void undoneIsGone() {
        LongCaterpillars x = new LongCaterpillars();
        x.hatch(0, 5, 9);
        x.ticks(9);
        x.undo();
        x.undo();
        Check.due("hatch behind undo", x.hatch(35, 34, 1), 0);
        int[] due = {0, 0, 1, 0, 0, NONE, 35, 34, 1};
        for (int what = 0; what < due.length; what++) {
            Check.due("behind undo: caterpillar(0, " + what + ")", x.caterpillar(0, what), due[what]);
        }
        x.ticks(1);
        Check.due("undo()", x.undo(), 1);
        // undo is no action: it can't be undone
        Check.due("undo() again", x.undo(), 0);
        Check.due("about(0)", x.about(0), 0);
    }
}
