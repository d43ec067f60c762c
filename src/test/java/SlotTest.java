/** Promises 26 and 27. */
public final class SlotTest {

    private SlotTest() {
    }

    public static void main(String[] args) {
        savesAndRestores();
        restoreForgets();
        slotsAreApart();
        slotsAreNoState();
        refuses();
        Check.end();
    }

    private static void savesAndRestores() {
        LongCaterpillars x = Check.house("Lh00359h35009r1x14t07");
        Check.due("save(0)", x.save(0), 7);
        int[] about = new int[10];
        for (int what = 0; what < 10; what++) {
            about[what] = x.about(what);
        }
        int head = x.lies(0, 0);
        x.ticks(30);
        x.rule(0);
        x.shut(20, true);
        x.hatch(5, 5, 5);
        x.pull(2);
        for (int times = 0; times < 2; times++) {
            Check.due("restore(0)", x.restore(0), 7);
            for (int what = 0; what < 10; what++) {
                Check.due("restored: about(" + what + ")", x.about(what), about[what]);
            }
            Check.due("restored: lies(0, 0)", x.lies(0, 0), head);
            Check.due("restored: room(" + head + ", 0)", x.room(head, 0), 0);
            Check.due("restored: room(20, 1)", x.room(20, 1), 0);
            x.ticks(60);
            x.shut(20, true);
        }
    }

    private static void restoreForgets() {
        LongCaterpillars x = new LongCaterpillars();
        x.ticks(5);
        x.save(1);
        Check.due("undo(), save forgets nothing and is no action", x.undo(), 0);
        x.ticks(1);
        x.ticks(2);
        Check.due("restore(1)", x.restore(1), 5);
        Check.dueThrow("undo() behind restore", IllegalStateException.class, x::undo);
        x.ticks(3);
        Check.due("undo() of what came behind", x.undo(), 0);
        Check.due("about(5), as restored", x.about(5), 5);
    }

    private static void slotsAreApart() {
        LongCaterpillars x = new LongCaterpillars();
        x.ticks(1);
        Check.due("save(0)", x.save(0), 1);
        x.ticks(2);
        Check.due("save(1)", x.save(1), 3);
        x.ticks(4);
        Check.due("restore(0)", x.restore(0), 1);
        Check.due("restore(1)", x.restore(1), 3);
        Check.due("save(0), again", x.save(0), 3);
        x.ticks(1);
        Check.due("restore(0), the later one", x.restore(0), 3);
    }

    private static void slotsAreNoState() {
        LongCaterpillars x = new LongCaterpillars();
        for (int k = 0; k < 20; k++) {
            x.ticks(1);
            if (k == 3) {
                x.save(0);
            }
        }
        for (int k = 13; k >= 0; k--) {
            Check.due("undo()", x.undo(), k);
        }
        Check.due("restore(0), behind undo", x.restore(0), 4);
        Check.write(x, "Lt02");
        Check.due("restore(0) keeps the text", x.clearText(), 4);
        Check.write(x, "Lt02");
        x.load();
        Check.dueThrow("restore(0), behind load", IllegalStateException.class, () -> x.restore(0));
        Check.due("save(0), behind load", x.save(0), 2);
        Check.due("restore(0), saved again", x.restore(0), 2);
        Check.dueThrow("restore(1), not saved again", IllegalStateException.class, () -> x.restore(1));
    }

    private static void refuses() {
        LongCaterpillars x = new LongCaterpillars();
        for (int slot : new int[] {-1, 2, Integer.MIN_VALUE, Integer.MAX_VALUE}) {
            Check.dueThrow("save(" + slot + ")", IndexOutOfBoundsException.class, () -> x.save(slot));
            Check.dueThrow("restore(" + slot + ")", IndexOutOfBoundsException.class, () -> x.restore(slot));
        }
        x.ticks(3);
        Check.dueThrow("restore(0), nothing saved", IllegalStateException.class, () -> x.restore(0));
        x.save(1);
        Check.dueThrow("restore(0), only 1 saved", IllegalStateException.class, () -> x.restore(0));
        Check.due("undo(), nothing forgotten", x.undo(), 0);
    }
}
