/** The sentences of promises 26 and 27 that name a boundary case, a test for each. */
public final class EdgesOfSlotsTest {

    private static final int[] NO_SLOTS = {-1, 2, Integer.MIN_VALUE, Integer.MAX_VALUE};

    private EdgesOfSlotsTest() {
    }

    public static void main(String[] args) {
        Check.sentence("26: Stores the present state in a save slot", EdgesOfSlotsTest::stores);
        Check.sentence("26: slot: 0 or 1", EdgesOfSlotsTest::twoSlots);
        Check.sentence("26: Returns the ticks so far", EdgesOfSlotsTest::ticksSaved);
        Check.sentence("26: IndexOutOfBoundsException if there is no such save slot", EdgesOfSlotsTest::saveNoSlot);
        Check.sentence("27: Replaces the state by the one in a save slot", EdgesOfSlotsTest::replaces);
        Check.sentence("27: and forgets all remembered states", EdgesOfSlotsTest::forgets);
        Check.sentence("27: The save slot keeps it", EdgesOfSlotsTest::keeps);
        Check.sentence("27: Returns the ticks so far then", EdgesOfSlotsTest::ticksRestored);
        Check.sentence("27: IndexOutOfBoundsException if there is no such save slot",
                EdgesOfSlotsTest::restoreNoSlot);
        Check.sentence("27: IllegalStateException if nothing has been saved in it", EdgesOfSlotsTest::nothingSaved);
        Check.sentence("27: since the last load", EdgesOfSlotsTest::sinceTheLastLoad);
        Check.end();
    }

    /** Ten caterpillars, the last of which are out, in their cracks, gone and pulled. */
    private static LongCaterpillars full() {
        return Check.house("Lr2x14h00359h35009h05309h30059h21211h12121h00359h35351h28289t05p5x20p6h07089");
    }

    private static void stores() {
        LongCaterpillars x = full();
        String due = Reading.state(x);
        Check.due("save(1)", x.save(1), 5);
        Check.dueState("saved, the state is as it was", x, due);
        x.ticks(60);
        x.rule(0);
        x.shut(14, false);
        x.restore(1);
        Check.dueState("restored", x, due);
        // an empty house is a state as well
        LongCaterpillars y = new LongCaterpillars();
        String empty = Reading.state(y);
        y.save(0);
        y.hatch(0, 0, 1);
        y.ticks(3);
        y.restore(0);
        Check.dueState("restored, an empty house", y, empty);
        // save is no action
        y.save(0);
        Check.notNow("undo() behind save", y::undo);
    }

    private static void twoSlots() {
        LongCaterpillars x = new LongCaterpillars();
        x.ticks(1);
        x.save(0);
        x.ticks(2);
        x.save(1);
        x.ticks(4);
        Check.due("restore(1)", x.restore(1), 3);
        Check.due("restore(0)", x.restore(0), 1);
        Check.due("restore(1) again", x.restore(1), 3);
        x.ticks(8);
        Check.due("save(0) over the one before", x.save(0), 11);
        Check.due("restore(1), the other one stays", x.restore(1), 3);
        Check.due("restore(0), the later one", x.restore(0), 11);
    }

    private static void ticksSaved() {
        LongCaterpillars x = new LongCaterpillars();
        Check.due("save(0), no tick", x.save(0), 0);
        x.ticks(1);
        Check.due("save(0), one tick", x.save(0), 1);
        for (int k = 0; k < 5; k++) {
            x.ticks(60);
        }
        Check.due("save(1), 301 ticks", x.save(1), 301);
        x.undo();
        Check.due("save(0), taken back", x.save(0), 241);
    }

    private static void saveNoSlot() {
        LongCaterpillars x = new LongCaterpillars();
        for (int slot : NO_SLOTS) {
            Check.noSuch("save(" + slot + ")", () -> x.save(slot));
        }
        Check.notNow("restore(0) behind them", () -> x.restore(0));
        Check.notNow("restore(1) behind them", () -> x.restore(1));
    }

    private static void replaces() {
        LongCaterpillars x = new LongCaterpillars();
        x.save(0);
        x.hatch(0, 35, 9);
        x.ticks(9);
        String due = Reading.state(x);
        x.save(1);
        x.restore(0);
        Check.due("about(0), restored", x.about(0), 0);
        Check.due("about(6), restored", x.about(6), 0);
        x.restore(1);
        Check.dueState("restored from the other slot", x, due);
        // but not the text
        Check.write(x, "Lr2");
        x.restore(0);
        Check.due("clearText() behind restore", x.clearText(), 3);
    }

    private static void forgets() {
        LongCaterpillars x = new LongCaterpillars();
        x.ticks(1);
        x.save(0);
        for (int k = 0; k < 14; k++) {
            x.ticks(1);
        }
        x.restore(0);
        Check.notNow("undo() behind restore", x::undo);
        for (int k = 0; k < 3; k++) {
            x.ticks(1);
        }
        for (int k = 2; k >= 0; k--) {
            Check.due("undo() of what came behind", x.undo(), k);
        }
        Check.due("about(5), as restored", x.about(5), 1);
        Check.notNow("undo(), all taken back", x::undo);
        // undo goes on though a state was saved
        x.ticks(1);
        x.save(1);
        Check.due("undo() behind save", x.undo(), 0);
    }

    private static void keeps() {
        LongCaterpillars x = full();
        String due = Reading.state(x);
        x.save(0);
        for (int times = 0; times < 2; times++) {
            x.ticks(40);
            x.restore(0);
            Check.dueState("restored, times " + times, x, due);
        }
        // what is done behind restore does not come into the slot
        x.pull(0);
        x.undo();
        x.ticks(1);
        Check.due("restore(0)", x.restore(0), 5);
        Check.due("caterpillar(0, 0)", x.caterpillar(0, 0), 1);
        // and undo does not take the slot back
        LongCaterpillars y = new LongCaterpillars();
        y.ticks(1);
        y.ticks(2);
        y.save(1);
        y.undo();
        y.undo();
        Check.due("restore(1) behind undo", y.restore(1), 3);
    }

    private static void ticksRestored() {
        LongCaterpillars x = new LongCaterpillars();
        x.save(0);
        x.ticks(60);
        Check.due("restore(0), no tick", x.restore(0), 0);
        x.ticks(1);
        x.save(1);
        x.ticks(60);
        Check.due("restore(1), one tick", x.restore(1), 1);
        Check.due("about(5)", x.about(5), 1);
    }

    private static void restoreNoSlot() {
        LongCaterpillars x = new LongCaterpillars();
        for (int times = 0; times < 2; times++) {
            for (int slot : NO_SLOTS) {
                Check.noSuch("restore(" + slot + ")", () -> x.restore(slot));
            }
            x.save(0);
            x.save(1);
        }
        Check.due("restore(0)", x.restore(0), 0);
        Check.due("restore(1)", x.restore(1), 0);
    }

    private static void nothingSaved() {
        LongCaterpillars x = new LongCaterpillars();
        Check.notNow("restore(0), new", () -> x.restore(0));
        Check.notNow("restore(1), new", () -> x.restore(1));
        x.ticks(1);
        x.save(1);
        Check.notNow("restore(0), 1 alone is saved", () -> x.restore(0));
        Check.due("restore(1)", x.restore(1), 1);
        LongCaterpillars y = new LongCaterpillars();
        y.save(0);
        Check.notNow("restore(1), 0 alone is saved", () -> y.restore(1));
        Check.due("restore(0)", y.restore(0), 0);
    }

    private static void sinceTheLastLoad() {
        LongCaterpillars x = Check.withText("Lt02");
        x.ticks(1);
        x.save(0);
        x.save(1);
        x.load();
        Check.notNow("restore(0) behind load", () -> x.restore(0));
        Check.notNow("restore(1) behind load", () -> x.restore(1));
        x.save(1);
        Check.due("restore(1), saved since", x.restore(1), 2);
        Check.notNow("restore(0), not saved since", () -> x.restore(0));
        x.load();
        Check.notNow("restore(1) behind another load", () -> x.restore(1));
        // a load that throws is none
        x.save(0);
        x.append('x');
        Check.notNow("load(), no house", x::load);
        Check.due("restore(0) behind it", x.restore(0), 2);
    }
}
