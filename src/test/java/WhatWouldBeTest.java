/** Promises 19 to 23. */
public final class WhatWouldBeTest {

    private static final int NONE = LongCaterpillars.NONE;

    private WhatWouldBeTest() {
    }

    public static void main(String[] args) {
        goneInTells();
        goneInOfThoseThatAreNot();
        aLongTime();
        throughInTells();
        bestRuleByTheGone();
        bestRuleByTheTicks();
        bestPullInARing();
        bestPullOfSeveral();
        bestPullOfOneThatWouldBeGone();
        bestPullByTheGoneThen();
        noPullHelps();
        ifHatchedTells();
        ifHatchedRefuses();
        nothingIsChanged();
        Check.end();
    }

    private static void goneInTells() {
        LongCaterpillars x = Check.house("Lh00033h35302");
        Check.due("goneIn(0)", x.goneIn(0), 7);
        Check.due("goneIn(1)", x.goneIn(1), 8);
        x.ticks(3);
        Check.due("goneIn(0), 3 ticks on", x.goneIn(0), 4);
        x.ticks(4);
        Check.due("goneIn(0), just gone", x.goneIn(0), 0);
        Check.due("goneIn(1), a tick before", x.goneIn(1), 1);
        x.ticks(60);
        Check.due("goneIn(0), long gone", x.goneIn(0), 0);
        Check.dueThrow("goneIn(2)", IndexOutOfBoundsException.class, () -> x.goneIn(2));
        Check.dueThrow("goneIn(-1)", IndexOutOfBoundsException.class, () -> x.goneIn(-1));
    }

    private static void goneInOfThoseThatAreNot() {
        LongCaterpillars x = Check.house("Lh00033h03002h12121h20203x12p3");
        Check.due("goneIn(0), in a ring later", x.goneIn(0), NONE);
        Check.due("goneIn(1), in a ring later", x.goneIn(1), NONE);
        Check.due("goneIn(2), a shut crack", x.goneIn(2), NONE);
        Check.due("goneIn(3), pulled", x.goneIn(3), NONE);
        x.pull(0);
        Check.due("goneIn(1), the other one pulled", x.goneIn(1), 6);
        x.shut(12, false);
        Check.due("goneIn(2), opened", x.goneIn(2), 2);
        x.shut(1, true);
        Check.due("goneIn(1), its way shut", x.goneIn(1), NONE);
    }

    private static void aLongTime() {
        LongCaterpillars x = new LongCaterpillars();
        for (int i = 0; i < 10; i++) {
            x.hatch(0, 35, 9);
        }
        for (int i = 0; i < 10; i++) {
            Check.due("goneIn(" + i + "), one behind the other", x.goneIn(i), 20 + 9 * i);
        }
        Check.due("throughIn(), one behind the other", x.throughIn(), 101);
        x.shut(0, true);
        x.ticks(60);
        x.ticks(60);
        x.ticks(60);
        x.ticks(60);
        Check.due("throughIn(), shut", x.throughIn(), NONE);
        x.shut(0, false);
        Check.due("throughIn(), opened after 240 ticks", x.throughIn(), 101);
        Check.due("goneIn(9), opened after 240 ticks", x.goneIn(9), 101);
    }

    private static void throughInTells() {
        LongCaterpillars x = new LongCaterpillars();
        Check.due("throughIn(), empty", x.throughIn(), 0);
        x.hatch(7, 7, 1);
        Check.due("throughIn(), one", x.throughIn(), 2);
        x.hatch(0, 3, 3);
        Check.due("throughIn(), two", x.throughIn(), 7);
        x.hatch(30, 35, 2);
        x.shut(33, true);
        Check.due("throughIn(), one can't", x.throughIn(), NONE);
        x.pull(2);
        Check.due("throughIn(), it is pulled", x.throughIn(), 7);
        x.ticks(6);
        Check.due("throughIn(), 6 ticks on", x.throughIn(), 1);
        x.ticks(1);
        Check.due("throughIn(), it is so now", x.throughIn(), 0);
    }

    private static void best(String text, int due) {
        Check.due("bestRule() of " + text, Check.house(text).bestRule(), due);
    }

    private static void bestRuleByTheGone() {
        best("L", 0);
        best("Lr2h00071", 0);
        best("Lh00071x01", 1);
        best("Lh00071x06", 0);
        best("Lh00071x01x06", 0);
        best("Lr1h00071x06", 0);
        // each of the rules 0 and 1 brings one through, the rule 2 both
        best("Lh00071x01h35281x29", 2);
        best("Lh35281x29h00071x01r2", 2);
    }

    private static void bestRuleByTheTicks() {
        // by the rule 0 the first waits for the second; by the others it goes round, and all take 11 ticks
        best("Lh00071h01029", 1);
        // as many are gone by the rule 0 and by the rule 1, but later by the rule 1
        best("Lr1h00071h06129", 0);
        best("Lr2h06129h00071", 0);
        // a third one goes by the rules 1 and 2, or 0 and 2
        best("Lh00071h01029h30251x31", 1);
        best("Lh00071h01029h30251x24", 2);
    }

    private static void pull(String text, int due) {
        Check.due("bestPull() of " + text, Check.house(text).bestPull(), due);
    }

    private static void bestPullInARing() {
        pull("Lh00032h03002", 0);
        pull("Lh00032h03002t05", 0);
        // 0 waits for 1, which is in a ring with 2: its own pull helps none
        pull("Lh06001h00032h03002t02", 1);
        pull("Lh06001h00032h03002t02p1", NONE);
        // one that is gone counts with and without the pull
        pull("Lh35351t02h06001h00032h03002t02", 2);
    }

    private static void bestPullOfSeveral() {
        // 0 is in the way of 1, 2 is in the way of 3 and 4
        pull("Lx02x32h30332h24301h00032h06001h07011", 2);
        pull("Lx02x32h00032h06001h07011h30332h24301", 0);
        pull("Lx02x32h30332h24301h00032h06001h07011p4", 0);
    }

    private static void bestPullOfOneThatWouldBeGone() {
        // 0 goes round 1, by the rule 2, to where it can't go on, though 1 would be gone in the next tick
        pull("Lr2x21x26h14281h15151t01", 1);
        pull("Lr2x21x26h14281h15151t02", NONE);
    }

    private static void bestPullByTheGoneThen() {
        // the pull of 1, which would be gone, helps 0, and the pull of 2, which would not be, helps 3:
        // with the pull of 1 there is only 0 gone then, with the pull of 2 there are 1 and 3
        pull("Lr2x21x26h14281h15151x32h30332h24301", 2);
        pull("Lr2x21x26x32h30332h24301h14281h15151", 0);
    }

    private static void noPullHelps() {
        pull("L", NONE);
        pull("Lh00035", NONE);
        pull("Lh00035h30354", NONE);
        pull("Lh00035x02", NONE);
        pull("Lh00031h07081t06", NONE);
        pull("Lh00031p0", NONE);
    }

    private static void ifHatchedTells() {
        LongCaterpillars x = new LongCaterpillars();
        Check.due("ifHatched(0, 35, 2)", x.ifHatched(0, 35, 2), 13);
        Check.due("ifHatched(14, 14, 9)", x.ifHatched(14, 14, 9), 10);
        Check.due("ifHatched(0, 3, 3)", x.ifHatched(0, 3, 3), 7);
        x.shut(2, true);
        Check.due("ifHatched(0, 3, 3), shut", x.ifHatched(0, 3, 3), NONE);
        x.shut(2, false);
        x.hatch(0, 0, 9);
        x.ticks(1);
        // it comes out in the tick in which the other one is gone, the tick 9 from now
        Check.due("ifHatched(0, 3, 3), taken", x.ifHatched(0, 3, 3), 15);
        Check.due("ifHatched(0, 0, 1), taken", x.ifHatched(0, 0, 1), 10);
        Check.due("about(0)", x.about(0), 1);
        for (int i = 1; i < 10; i++) {
            Check.due("ifHatched(35, 35, 1) as number " + i, x.ifHatched(35, 35, 1), 2);
            x.hatch(30, 30, 1);
        }
        Check.due("ifHatched(35, 35, 1) as number 10", x.ifHatched(35, 35, 1), NONE);
    }

    private static void ifHatchedRefuses() {
        LongCaterpillars x = new LongCaterpillars();
        for (int count = 0; count <= 10; count += 10) {
            Check.dueThrow("ifHatched(-1, 0, 1)", IndexOutOfBoundsException.class, () -> x.ifHatched(-1, 0, 1));
            Check.dueThrow("ifHatched(36, 0, 1)", IndexOutOfBoundsException.class, () -> x.ifHatched(36, 0, 1));
            Check.dueThrow("ifHatched(0, -1, 1)", IndexOutOfBoundsException.class, () -> x.ifHatched(0, -1, 1));
            Check.dueThrow("ifHatched(0, 36, 0)", IndexOutOfBoundsException.class, () -> x.ifHatched(0, 36, 0));
            Check.dueThrow("ifHatched(0, 0, 0)", IllegalArgumentException.class, () -> x.ifHatched(0, 0, 0));
            Check.dueThrow("ifHatched(0, 0, 10)", IllegalArgumentException.class, () -> x.ifHatched(0, 0, 10));
            for (int i = 0; i < 10 && count == 0; i++) {
                x.hatch(0, 0, 1);
            }
        }
    }

    private static void nothingIsChanged() {
        LongCaterpillars x = new LongCaterpillars();
        x.hatch(0, 33, 4);
        x.hatch(3, 0, 2);
        x.ticks(2);
        String before = seen(x);
        x.goneIn(0);
        x.throughIn();
        x.bestRule();
        x.bestPull();
        x.ifHatched(5, 30, 4);
        x.runScript(3, 100009_300002_500000L);
        x.simulate(99, 60);
        if (!seen(x).equals(before)) {
            Check.tell("what would be has changed " + before + " to " + seen(x));
        }
        Check.due("undo() behind what would be", x.undo(), 2);
    }

    private static String seen(LongCaterpillars x) {
        StringBuilder s = new StringBuilder();
        for (int what = 0; what <= 9; what++) {
            s.append(x.about(what)).append(' ');
        }
        for (int i = 0; i < x.about(0); i++) {
            for (int what = 0; what <= 8; what++) {
                s.append(x.caterpillar(i, what)).append(' ');
            }
        }
        for (int k = 0; k < 36; k++) {
            s.append(x.room(k, 0)).append(x.room(k, 1)).append(' ');
        }
        return s.toString();
    }
}
