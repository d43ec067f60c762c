import java.util.ArrayList;
import java.util.List;

/** The sentences of "Terms", ACTIONS AND UNDO, and of promises 13 to 18 that name a boundary case, a test for each. */
public final class EdgesOfActionsTest {

    private static final int NONE = LongCaterpillars.NONE;
    private static final int MOST_REMEMBERED = 14;
    private static final int[] FAR = {Integer.MIN_VALUE, Integer.MAX_VALUE};
    private static final String TEN_APART = "Lh00001h01011h02021h03031h04041h05051h06061h07071h08081h09091";

    private EdgesOfActionsTest() {
    }

    public static void main(String[] args) {
        Check.sentence("the state, which consists of everything but the text and the save slots",
                EdgesOfActionsTest::everythingButTextAndSlots);
        Check.sentence("Each call that does not throw an exception is an action, also if nothing becomes different",
                EdgesOfActionsTest::alsoIfNothingBecomesDifferent);
        Check.sentence("(undo is none)", EdgesOfActionsTest::undoIsNone);
        Check.sentence("Before each action, the state is remembered", EdgesOfActionsTest::rememberedBefore);
        Check.sentence("At most 14 states are remembered", EdgesOfActionsTest::atMost14);
        Check.sentence("when one more is remembered, the oldest one is forgotten",
                EdgesOfActionsTest::theOldestIsForgotten);
        Check.sentence("load and restore are not actions", EdgesOfActionsTest::loadAndRestoreAreNone);
        Check.sentence("13: hatches a caterpillar, in its crack", EdgesOfActionsTest::inItsCrack);
        Check.sentence("13: Returns its number", EdgesOfActionsTest::itsNumber);
        Check.sentence("13: IndexOutOfBoundsException if there is no such room", EdgesOfActionsTest::hatchNoRoom);
        Check.sentence("13: IllegalArgumentException if length is out of range", EdgesOfActionsTest::hatchNoLength);
        Check.sentence("13: IllegalStateException if there are 10 so far", EdgesOfActionsTest::hatchFull);
        Check.sentence("14: n: 1 to 60", EdgesOfActionsTest::oneTo60Ticks);
        Check.sentence("14: Returns how many caterpillars were gone in them", EdgesOfActionsTest::goneInTheTicks);
        Check.sentence("14: IllegalArgumentException if n is out of range", EdgesOfActionsTest::noSuchTicks);
        Check.sentence("15: rule: 0 to 2", EdgesOfActionsTest::threeRules);
        Check.sentence("15: Returns the previous one", EdgesOfActionsTest::previousRule);
        Check.sentence("15: IllegalArgumentException if rule is out of range", EdgesOfActionsTest::noSuchRule);
        Check.sentence("16: Shuts a room, or opens it", EdgesOfActionsTest::shutsOrOpens);
        Check.sentence("16: Returns the rooms that are shut then", EdgesOfActionsTest::shutThen);
        Check.sentence("16: IndexOutOfBoundsException if there is no such room", EdgesOfActionsTest::shutNoRoom);
        Check.sentence("16: IllegalStateException if it is to be shut, and is taken", EdgesOfActionsTest::shutTaken);
        Check.sentence("17: from its crack or its rooms, which are not taken by it any more",
                EdgesOfActionsTest::pulledOut);
        Check.sentence("17: Returns the rooms that it leaves, how many", EdgesOfActionsTest::roomsLeft);
        Check.sentence("17: IndexOutOfBoundsException if there is no such caterpillar",
                EdgesOfActionsTest::pullNoSuch);
        Check.sentence("17: IllegalStateException if it is gone, or pulled already",
                EdgesOfActionsTest::pullGoneOrPulled);
        Check.sentence("18: Takes back the last action that is remembered", EdgesOfActionsTest::takesBackTheLast);
        Check.sentence("18: Returns how many states are still remembered", EdgesOfActionsTest::stillRemembered);
        Check.sentence("18: IllegalStateException if none is remembered", EdgesOfActionsTest::noneRemembered);
        Check.end();
    }

    private static void everythingButTextAndSlots() {
        LongCaterpillars x = Check.house("Lh00059h05009r1x20t03");
        String before = Reading.state(x);
        x.ticks(5);
        x.clearText();
        Check.write(x, "Lr2");
        x.save(0);
        x.undo();
        Check.dueState("undone", x, before);
        Check.due("the text is not taken back", x.clearText(), 3);
        Check.due("the save slot is not taken back", x.restore(0), 8);
    }

    private static void alsoIfNothingBecomesDifferent() {
        LongCaterpillars x = new LongCaterpillars();
        String before = Reading.state(x);
        x.rule(0);
        x.shut(7, false);
        x.rule(0);
        Check.dueState("nothing has become different", x, before);
        Check.due("undo() of rule(0)", x.undo(), 2);
        Check.due("undo() of shut(7, false)", x.undo(), 1);
        Check.due("undo() of rule(0)", x.undo(), 0);
        Check.notNow("undo()", x::undo);
        LongCaterpillars y = new LongCaterpillars();
        y.shut(7, true);
        y.shut(7, true);
        Check.due("undo() of the second shut(7, true)", y.undo(), 1);
        Check.due("room(7, 1)", y.room(7, 1), 1);
        Check.due("undo() of the first shut(7, true)", y.undo(), 0);
        Check.due("room(7, 1)", y.room(7, 1), 0);
        // calls that throw are none, nor are those of the other sections
        y.append('L');
        y.errorPosition();
        y.about(0);
        y.throughIn();
        y.bestRule();
        y.runScript(1, 100001);
        y.simulate(1, 1);
        y.save(0);
        Check.refused("rule(3)", () -> y.rule(3));
        Check.notNow("undo(), no action since", y::undo);
    }

    private static void undoIsNone() {
        LongCaterpillars x = new LongCaterpillars();
        x.ticks(1);
        x.ticks(2);
        Check.due("undo()", x.undo(), 1);
        Check.due("undo() again takes back one more", x.undo(), 0);
        Check.due("about(5)", x.about(5), 0);
        Check.notNow("undo() a third time", x::undo);
        // behind undo the states count on from where they are
        x.ticks(3);
        Check.due("undo()", x.undo(), 0);
        Check.due("about(5)", x.about(5), 0);
    }

    private static void rememberedBefore() {
        LongCaterpillars x = Check.house("Lh00035");
        List<String> states = new ArrayList<>();
        for (int k = 0; k < 5; k++) {
            states.add(Reading.state(x));
            act(x, k);
        }
        for (int k = 4; k >= 0; k--) {
            Check.due("undo()", x.undo(), k);
            Check.dueState("undone, action " + k, x, states.get(k));
        }
    }

    private static void act(LongCaterpillars x, int k) {
        switch (k) {
            case 0:
                x.hatch(35, 0, 4);
                break;
            case 1:
                x.ticks(4);
                break;
            case 2:
                x.rule(2);
                break;
            case 3:
                x.shut(20, true);
                break;
            default:
                x.pull(0);
                break;
        }
    }

    private static void tickAlone(LongCaterpillars x, int times) {
        for (int k = 0; k < times; k++) {
            x.ticks(1);
        }
    }

    private static void atMost14() {
        for (int actions = 12; actions <= 16; actions++) {
            LongCaterpillars x = new LongCaterpillars();
            tickAlone(x, actions);
            int remembered = Math.min(actions, MOST_REMEMBERED);
            for (int k = remembered - 1; k >= 0; k--) {
                Check.due("undo() behind " + actions + " actions", x.undo(), k);
            }
            Check.notNow("undo() number " + (remembered + 1) + " behind " + actions + " actions", x::undo);
            Check.due("about(5) behind " + actions + " actions, undone", x.about(5), actions - remembered);
        }
    }

    private static void theOldestIsForgotten() {
        LongCaterpillars x = new LongCaterpillars();
        tickAlone(x, 20);
        for (int k = 0; k < 5; k++) {
            Check.due("undo()", x.undo(), 13 - k);
            Check.due("about(5)", x.about(5), 19 - k);
        }
        // 9 are remembered, with 6 to 14 ticks; 10 more, with 15 to 24
        tickAlone(x, 10);
        Check.due("about(5)", x.about(5), 25);
        for (int k = 13; k >= 0; k--) {
            Check.due("undo(), " + k + " left", x.undo(), k);
            Check.due("about(5), " + k + " left", x.about(5), 11 + k);
        }
        Check.notNow("undo() of a forgotten one", x::undo);
        Check.due("about(5), nothing left", x.about(5), 11);
        // however many are forgotten
        LongCaterpillars y = new LongCaterpillars();
        for (int k = 1; k <= 100; k++) {
            y.rule(k % 3);
        }
        for (int k = 99; k > 99 - MOST_REMEMBERED; k--) {
            y.undo();
            Check.due("about(8), undone down to " + k, y.about(8), k % 3);
        }
        Check.notNow("undo() number 15", y::undo);
    }

    private static void loadAndRestoreAreNone() {
        LongCaterpillars x = Check.withText("Lt05");
        x.load();
        Check.notNow("undo() behind load", x::undo);
        x.save(0);
        x.restore(0);
        Check.notNow("undo() behind restore", x::undo);
        Check.due("about(5)", x.about(5), 5);
        x.ticks(1);
        Check.due("undo()", x.undo(), 0);
        Check.due("about(5), undone", x.about(5), 5);
    }

    private static void inItsCrack() {
        LongCaterpillars x = Check.house("Lx00h07089t03");
        Check.due("hatch where it is shut", x.hatch(0, 35, 9), 1);
        Check.due("hatch where it is taken", x.hatch(7, 7, 1), 2);
        for (int i = 1; i <= 2; i++) {
            Check.due("caterpillar(" + i + ", 0)", x.caterpillar(i, 0), 0);
            Check.due("caterpillar(" + i + ", 1)", x.caterpillar(i, 1), 0);
            Check.due("caterpillar(" + i + ", 2)", x.caterpillar(i, 2), i == 1 ? 9 : 1);
            Check.due("caterpillar(" + i + ", 3)", x.caterpillar(i, 3), 0);
            Check.due("caterpillar(" + i + ", 4)", x.caterpillar(i, 4), 0);
            Check.due("caterpillar(" + i + ", 5)", x.caterpillar(i, 5), NONE);
        }
        Check.due("room(7, 0) is taken by the same one", x.room(7, 0), 0);
        Check.due("about(6)", x.about(6), 2);
    }

    private static void itsNumber() {
        LongCaterpillars x = new LongCaterpillars();
        Check.due("hatch, the first", x.hatch(0, 0, 1), 0);
        x.ticks(2);
        Check.due("hatch, the first is gone", x.hatch(0, 0, 1), 1);
        x.pull(1);
        Check.due("hatch, the second is pulled", x.hatch(0, 0, 1), 2);
        x.undo();
        Check.due("hatch, the third is taken back", x.hatch(0, 0, 1), 2);
        for (int i = 3; i < 9; i++) {
            x.hatch(0, 0, 1);
        }
        Check.due("hatch, the last that can be", x.hatch(0, 0, 1), 9);
    }

    private static void hatchNoRoom() {
        LongCaterpillars x = new LongCaterpillars();
        Check.noSuch("hatch(-1, 0, 1)", () -> x.hatch(-1, 0, 1));
        Check.noSuch("hatch(36, 0, 1)", () -> x.hatch(36, 0, 1));
        Check.noSuch("hatch(0, -1, 1)", () -> x.hatch(0, -1, 1));
        Check.noSuch("hatch(0, 36, 1)", () -> x.hatch(0, 36, 1));
        for (int k : FAR) {
            Check.noSuch("hatch(" + k + ", 0, 1)", () -> x.hatch(k, 0, 1));
            Check.noSuch("hatch(0, " + k + ", 1)", () -> x.hatch(0, k, 1));
        }
        Check.due("hatch(0, 35, 1)", x.hatch(0, 35, 1), 0);
        Check.due("hatch(35, 0, 1)", x.hatch(35, 0, 1), 1);
    }

    private static void hatchNoLength() {
        LongCaterpillars x = new LongCaterpillars();
        Check.refused("hatch(0, 0, 0)", () -> x.hatch(0, 0, 0));
        Check.refused("hatch(0, 0, 10)", () -> x.hatch(0, 0, 10));
        Check.refused("hatch(0, 0, -1)", () -> x.hatch(0, 0, -1));
        for (int length : FAR) {
            Check.refused("hatch(0, 0, " + length + ")", () -> x.hatch(0, 0, length));
        }
        Check.due("hatch(0, 0, 1)", x.hatch(0, 0, 1), 0);
        Check.due("hatch(0, 0, 9)", x.hatch(0, 0, 9), 1);
    }

    private static void hatchFull() {
        LongCaterpillars x = Check.house(TEN_APART);
        Check.notNow("hatch number 11", () -> x.hatch(0, 0, 1));
        x.pull(9);
        Check.notNow("hatch number 11, one pulled", () -> x.hatch(0, 0, 1));
        x.ticks(2);
        Check.notNow("hatch number 11, nine gone", () -> x.hatch(0, 0, 1));
        Check.due("about(0)", x.about(0), 10);
        LongCaterpillars y = new LongCaterpillars();
        for (int i = 0; i < 10; i++) {
            y.hatch(0, 0, 1);
        }
        Check.notNow("hatch number 11", () -> y.hatch(0, 0, 1));
        y.undo();
        Check.due("hatch, the tenth is taken back", y.hatch(0, 0, 1), 9);
    }

    private static void oneTo60Ticks() {
        for (int n = 1; n <= 60; n++) {
            LongCaterpillars x = Check.house("Lx00h00001");
            x.ticks(n);
            Check.due("about(5) behind ticks(" + n + ")", x.about(5), n);
            Check.due("caterpillar(0, 4) behind ticks(" + n + ")", x.caterpillar(0, 4), n);
        }
    }

    private static void goneInTheTicks() {
        LongCaterpillars x = Check.house(TEN_APART);
        Check.due("ticks(1), none as yet", x.ticks(1), 0);
        Check.due("ticks(1), all ten", x.ticks(1), 10);
        Check.due("ticks(60), those are gone already", x.ticks(60), 0);
        Check.due("ticks(2), all ten", Check.house(TEN_APART).ticks(2), 10);
        Check.due("ticks(60), pulled ones are none", Check.house(TEN_APART + "p0p9").ticks(60), 8);
        LongCaterpillars y = Check.house("Lh00359");
        Check.due("ticks(19)", y.ticks(19), 0);
        Check.due("ticks(1), the twentieth", y.ticks(1), 1);
        Check.due("ticks(20)", Check.house("Lh00359").ticks(20), 1);
        Check.due("ticks(60), empty", new LongCaterpillars().ticks(60), 0);
    }

    private static void noSuchTicks() {
        LongCaterpillars x = new LongCaterpillars();
        Check.refused("ticks(0)", () -> x.ticks(0));
        Check.refused("ticks(61)", () -> x.ticks(61));
        Check.refused("ticks(-1)", () -> x.ticks(-1));
        for (int n : FAR) {
            Check.refused("ticks(" + n + ")", () -> x.ticks(n));
        }
        Check.due("about(5)", x.about(5), 0);
        Check.due("ticks(1)", x.ticks(1), 0);
        Check.due("ticks(60)", x.ticks(60), 0);
        Check.due("about(5)", x.about(5), 61);
    }

    private static void threeRules() {
        int[] heads = {1, 6, 1};
        for (int rule = 0; rule <= 2; rule++) {
            LongCaterpillars x = Check.house("Lh00351t01");
            x.rule(rule);
            Check.due("about(8), rule " + rule, x.about(8), rule);
            Check.due("next(0), rule " + rule, x.next(0), heads[rule]);
        }
    }

    private static void previousRule() {
        LongCaterpillars x = new LongCaterpillars();
        int[] rules = {0, 2, 2, 1, 0, 1, 1, 2, 0};
        int before = 0;
        for (int rule : rules) {
            Check.due("rule(" + rule + ")", x.rule(rule), before);
            before = rule;
        }
    }

    private static void noSuchRule() {
        LongCaterpillars x = Check.house("Lr1");
        Check.refused("rule(-1)", () -> x.rule(-1));
        Check.refused("rule(3)", () -> x.rule(3));
        for (int rule : FAR) {
            Check.refused("rule(" + rule + ")", () -> x.rule(rule));
        }
        Check.due("rule(0)", x.rule(0), 1);
        Check.due("rule(2)", x.rule(2), 0);
    }

    private static void shutsOrOpens() {
        for (int k = 0; k < 36; k++) {
            LongCaterpillars x = Check.house("Lh" + (k < 10 ? "0" : "") + k + "001");
            x.shut(k, true);
            x.ticks(1);
            Check.due("room(" + k + ", 1), shut", x.room(k, 1), 1);
            Check.due("room " + k + " is shut: about(1)", x.about(1), 1);
            x.shut(k, false);
            x.ticks(1);
            Check.due("room(" + k + ", 1), opened", x.room(k, 1), 0);
            Check.due("room " + k + " is opened: about(2)", x.about(2), 1);
        }
    }

    private static void shutThen() {
        LongCaterpillars x = new LongCaterpillars();
        Check.due("shut(0, false), open at first", x.shut(0, false), 0);
        for (int k = 0; k < 36; k++) {
            Check.due("shut(" + k + ", true)", x.shut(k, true), k + 1);
            Check.due("shut(" + k + ", true) again", x.shut(k, true), k + 1);
        }
        for (int k = 35; k >= 0; k--) {
            Check.due("shut(" + k + ", false)", x.shut(k, false), k);
            Check.due("shut(" + k + ", false) again", x.shut(k, false), k);
        }
    }

    private static void shutNoRoom() {
        LongCaterpillars x = new LongCaterpillars();
        for (boolean shut : new boolean[] {true, false}) {
            Check.noSuch("shut(-1, " + shut + ")", () -> x.shut(-1, shut));
            Check.noSuch("shut(36, " + shut + ")", () -> x.shut(36, shut));
            for (int k : FAR) {
                Check.noSuch("shut(" + k + ", " + shut + ")", () -> x.shut(k, shut));
            }
        }
        Check.due("shut(35, true)", x.shut(35, true), 1);
        Check.due("shut(0, true)", x.shut(0, true), 2);
    }

    private static void shutTaken() {
        LongCaterpillars x = Check.house("Lh00053");
        Check.due("shut(0, true), only a crack is there", x.shut(0, true), 1);
        Check.due("shut(5, true), only a leaf is there", x.shut(5, true), 2);
        x.shut(0, false);
        x.ticks(4);
        Check.notNow("shut(3, true), its head is there", () -> x.shut(3, true));
        Check.notNow("shut(2, true), it lies there", () -> x.shut(2, true));
        Check.notNow("shut(1, true), its end is there", () -> x.shut(1, true));
        Check.due("shut(0, true), it has just left", x.shut(0, true), 2);
        Check.due("shut(4, true), it would go there next", x.shut(4, true), 3);
        Check.due("shut(2, false), it is not to be shut", x.shut(2, false), 3);
        x.pull(0);
        Check.due("shut(2, true), not taken any more", x.shut(2, true), 4);
        LongCaterpillars y = Check.house("Lh35351t01");
        Check.notNow("shut(35, true), taken", () -> y.shut(35, true));
        y.ticks(1);
        Check.due("shut(35, true), it is gone", y.shut(35, true), 1);
    }

    private static void pulledOut() {
        LongCaterpillars x = Check.house("Lh00359h00019t09");
        x.pull(0);
        for (int k = 0; k < 36; k++) {
            Check.due("room(" + k + ", 0), pulled", x.room(k, 0), NONE);
        }
        Check.due("about(6), pulled", x.about(6), 0);
        Check.due("caterpillar(0, 0)", x.caterpillar(0, 0), 3);
        Check.due("caterpillar(0, 1)", x.caterpillar(0, 1), 0);
        Check.due("caterpillar(0, 2)", x.caterpillar(0, 2), 0);
        x.ticks(1);
        Check.due("room(0, 0), the other one comes out", x.room(0, 0), 1);
        x.pull(1);
        x.ticks(60);
        Check.due("about(2), none comes out behind a pull", x.about(2), 0);
        Check.due("about(4)", x.about(4), 2);
        // another one's rooms stay taken
        LongCaterpillars y = Check.house("Lh00059h06119t03p0");
        Check.due("about(6), the other one's", y.about(6), 3);
        Check.due("room(8, 0), the other one's", y.room(8, 0), 1);
    }

    private static void pullLeaves(String text, int due) {
        Check.due("pull(0) of " + text, Check.house(text).pull(0), due);
    }

    private static void roomsLeft() {
        pullLeaves("Lh00359", 0);
        pullLeaves("Lx00h00359t09", 0);
        pullLeaves("Lh00359t01", 1);
        pullLeaves("Lh00359t08", 8);
        pullLeaves("Lh00359t09", 9);
        pullLeaves("Lh00359t12", 8);
        pullLeaves("Lh00359t19", 1);
        pullLeaves("Lh00009t05", 1);
        pullLeaves("Lh00351t10", 1);
    }

    private static void pullNoSuch() {
        LongCaterpillars x = Check.house("Lh00001h00001");
        Check.noSuch("pull(-1)", () -> x.pull(-1));
        Check.noSuch("pull(2)", () -> x.pull(2));
        Check.noSuch("pull(10)", () -> x.pull(10));
        Check.noSuch("pull(0), empty", () -> new LongCaterpillars().pull(0));
        LongCaterpillars full = Check.house(TEN_APART);
        Check.noSuch("pull(10), full", () -> full.pull(10));
        Check.due("pull(9), full", full.pull(9), 0);
        for (int i : FAR) {
            Check.noSuch("pull(" + i + ")", () -> x.pull(i));
        }
    }

    private static void pullGoneOrPulled() {
        LongCaterpillars x = Check.house("Lh00001h07079h35359t02p1");
        Check.notNow("pull(0), gone", () -> x.pull(0));
        Check.notNow("pull(1), pulled from its rooms", () -> x.pull(1));
        Check.due("pull(2), eats", x.pull(2), 1);
        x.hatch(0, 0, 1);
        x.pull(3);
        Check.notNow("pull(3), pulled from its crack", () -> x.pull(3));
        LongCaterpillars y = Check.house("Lh00001t01");
        Check.due("pull(0), a tick before it is gone", y.pull(0), 1);
        y.undo();
        y.ticks(1);
        Check.notNow("pull(0), gone just now", () -> y.pull(0));
    }

    private static void takesBackTheLast() {
        LongCaterpillars x = new LongCaterpillars();
        x.rule(1);
        x.rule(2);
        x.undo();
        Check.due("about(8), the last one is taken back", x.about(8), 1);
        x.ticks(5);
        x.undo();
        Check.due("about(5)", x.about(5), 0);
        Check.due("about(8)", x.about(8), 1);
        x.undo();
        Check.due("about(8), the first one is taken back", x.about(8), 0);
        // sixty ticks are one action
        LongCaterpillars y = Check.house("Lh00359h35009h05309");
        String before = Reading.state(y);
        y.ticks(60);
        y.undo();
        Check.dueState("sixty ticks taken back", y, before);
        // a call that threw is not the last one
        y.rule(1);
        Check.refused("rule(9)", () -> y.rule(9));
        Check.due("undo() of the one before", y.undo(), 0);
        Check.due("about(8)", y.about(8), 0);
    }

    private static void stillRemembered() {
        LongCaterpillars x = new LongCaterpillars();
        x.ticks(1);
        Check.due("undo(), one remembered", x.undo(), 0);
        tickAlone(x, 14);
        Check.due("undo(), 14 remembered", x.undo(), 13);
        x.ticks(1);
        x.ticks(1);
        Check.due("undo(), 14 remembered again", x.undo(), 13);
        Check.due("undo()", x.undo(), 12);
    }

    private static void noneRemembered() {
        LongCaterpillars x = Check.withText("Lr1t02");
        Check.notNow("undo(), new", x::undo);
        x.load();
        Check.notNow("undo(), loaded", x::undo);
        x.save(1);
        Check.notNow("undo(), saved", x::undo);
        x.ticks(1);
        x.restore(1);
        Check.notNow("undo(), restored", x::undo);
        x.ticks(1);
        x.undo();
        Check.notNow("undo(), all taken back", x::undo);
        Check.due("about(5)", x.about(5), 2);
    }
}
