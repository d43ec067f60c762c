/** The sentences of promises 19 to 23 that name a boundary case, a test for each. */
public final class EdgesOfForesightTest {

    private static final int NONE = LongCaterpillars.NONE;
    private static final int[] FAR = {Integer.MIN_VALUE, Integer.MAX_VALUE};

    /** It takes 107 ticks until all have come through: the longest time that a long search has found. */
    private static final String LONG_TIME = "Lr1h35289h29269h28099h20009h07009h22149h16109h00359h10009h35009";

    private EdgesOfForesightTest() {
    }

    public static void main(String[] args) {
        Check.sentence("19: behind how many ticks it is gone", EdgesOfForesightTest::goneBehindSoMany);
        Check.sentence("19: 0 if it is now", EdgesOfForesightTest::goneNow);
        Check.sentence("19: up to 200, if nothing else is done", EdgesOfForesightTest::goneAfterALongTime);
        Check.sentence("19: NONE if it is not by then", EdgesOfForesightTest::notGoneByThen);
        Check.sentence("19: and for a pulled one", EdgesOfForesightTest::goneInOfAPulledOne);
        Check.sentence("19: IndexOutOfBoundsException if there is no such caterpillar",
                EdgesOfForesightTest::goneInOfNoSuch);
        Check.sentence("20: behind how many ticks none is in its crack or out",
                EdgesOfForesightTest::throughBehindSoMany);
        Check.sentence("20: 0 if it is so now", EdgesOfForesightTest::throughNow);
        Check.sentence("20: up to 200, if nothing else is done", EdgesOfForesightTest::throughAfterALongTime);
        Check.sentence("20: NONE if it is not so by then", EdgesOfForesightTest::notThroughByThen);
        Check.sentence("21: the rule with which most caterpillars would be gone behind 200 ticks",
                EdgesOfForesightTest::ruleOfMostGone);
        Check.sentence("21: of several the one with which throughIn() is least",
                EdgesOfForesightTest::ruleOfLeastTicks);
        Check.sentence("21: (NONE as the most)", EdgesOfForesightTest::ruleIfNoneIsThrough);
        Check.sentence("21: of several the lowest", EdgesOfForesightTest::lowestRule);
        Check.sentence("22: of the caterpillars in their cracks or out", EdgesOfForesightTest::pullInTheCrackOrOut);
        Check.sentence("22: by whose pull more of the others would be gone", EdgesOfForesightTest::pullMoreGone);
        Check.sentence("22: than would be of these others without the pull", EdgesOfForesightTest::pullOfTheseOthers);
        Check.sentence("22: the one by whose pull most others would be gone then", EdgesOfForesightTest::pullMostGone);
        Check.sentence("22: of several the lowest", EdgesOfForesightTest::lowestPull);
        Check.sentence("22: NONE if there is none", EdgesOfForesightTest::noPull);
        Check.sentence("23: goneIn() of it, if it was hatched now", EdgesOfForesightTest::hatchedNow);
        Check.sentence("23: NONE also if there are 10 so far", EdgesOfForesightTest::hatchedAsTheEleventh);
        Check.sentence("23: IndexOutOfBoundsException if there is no such room", EdgesOfForesightTest::ifHatchedNoRoom);
        Check.sentence("23: IllegalArgumentException if length is out of range",
                EdgesOfForesightTest::ifHatchedNoLength);
        Check.end();
    }

    private static void goneIn(String text, int i, int due) {
        Check.due("goneIn(" + i + ") of " + text, Check.house(text).goneIn(i), due);
    }

    private static void goneBehindSoMany() {
        goneIn("Lh00001", 0, 2);
        goneIn("Lh00001t01", 0, 1);
        goneIn("Lh00359", 0, 20);
        goneIn("Lh00359t19", 0, 1);
        // it waits as it would, for one that goes away, and does not if that one is pulled
        goneIn("Lh00009h00001", 1, 11);
        goneIn("Lh00009h00001p0", 1, 2);
        // by the rule that is
        goneIn("Lh00071x01r1", 0, 4);
        goneIn("Lh00071x01r0", 0, NONE);
    }

    private static void goneNow() {
        goneIn("Lh00001t02", 0, 0);
        goneIn("Lh00001t03", 0, 0);
        goneIn("Lh00001t60t60t60t60t60", 0, 0);
        goneIn("Lh00359t20", 0, 0);
        // though another one never is
        goneIn("Lh00001t02x35h35351", 0, 0);
    }

    private static void goneAfterALongTime() {
        LongCaterpillars x = Check.house(LONG_TIME);
        int last = 0;
        for (int i = 0; i < 10; i++) {
            last = Math.max(last, x.goneIn(i));
        }
        Check.due("goneIn() of the last one", last, 107);
        for (int i = 0; i < 10; i++) {
            int due = x.goneIn(i);
            LongCaterpillars y = Check.house(LONG_TIME);
            passTicks(y, due - 1);
            Check.due("caterpillar(" + i + ", 0), a tick before", y.caterpillar(i, 0), 1);
            y.ticks(1);
            Check.due("caterpillar(" + i + ", 0), behind " + due + " ticks", y.caterpillar(i, 0), 2);
        }
        // from now on, however many ticks there were before
        goneIn("Lt60t60t60t60h00359", 0, 20);
        goneIn("Lx00h00359t60t60t60t60", 0, NONE);
        LongCaterpillars z = Check.house("Lx00h00359t60t60t60t60");
        z.shut(0, false);
        Check.due("goneIn(0), opened behind 240 ticks", z.goneIn(0), 20);
    }

    private static void passTicks(LongCaterpillars x, int ticks) {
        for (int k = 0; k < ticks; k++) {
            x.ticks(1);
        }
    }

    private static void notGoneByThen() {
        goneIn("Lx00h00001", 0, NONE);
        goneIn("Lx35h00351t11", 0, NONE);
        goneIn("Lh00032h03002", 0, NONE);
        goneIn("Lh00032h03002", 1, NONE);
        goneIn("Lh00032h03002h06001", 2, NONE);
        // the others are none the less
        goneIn("Lh00032h03002h35351", 2, 2);
    }

    private static void goneInOfAPulledOne() {
        goneIn("Lh00001p0", 0, NONE);
        goneIn("Lh00001t01p0", 0, NONE);
        goneIn("Lh00002t02p0t60", 0, NONE);
        goneIn("Lh00001h00001p0", 1, 2);
    }

    private static void goneInOfNoSuch() {
        LongCaterpillars x = Check.house("Lh00001");
        Check.noSuch("goneIn(-1)", () -> x.goneIn(-1));
        Check.noSuch("goneIn(1)", () -> x.goneIn(1));
        Check.noSuch("goneIn(10)", () -> x.goneIn(10));
        for (int i : FAR) {
            Check.noSuch("goneIn(" + i + ")", () -> x.goneIn(i));
        }
        LongCaterpillars empty = new LongCaterpillars();
        Check.noSuch("goneIn(0), empty", () -> empty.goneIn(0));
        LongCaterpillars full = Check.house("L" + "h00001".repeat(10));
        // one comes out in the tick in which the one before it is gone
        Check.due("goneIn(9), full", full.goneIn(9), 11);
        Check.noSuch("goneIn(10), full", () -> full.goneIn(10));
    }

    private static void throughIn(String text, int due) {
        Check.due("throughIn() of " + text, Check.house(text).throughIn(), due);
    }

    private static void throughBehindSoMany() {
        throughIn("Lh00001", 2);
        throughIn("Lh00001t01", 1);
        throughIn("Lh00001h35359", 10);
        throughIn("Lh35359h00001", 10);
        throughIn("Lh00359h35001p0", 12);
        throughIn("Lh00001t02h35351", 2);
    }

    private static void throughNow() {
        throughIn("L", 0);
        throughIn("Lt60", 0);
        throughIn("Lh00001t02", 0);
        throughIn("Lh00001t60", 0);
        throughIn("Lh00001p0", 0);
        throughIn("Lh00009t05p0", 0);
        throughIn("Lh00001t02h35359p1", 0);
        throughIn("Lx00h00001p0", 0);
    }

    private static void throughAfterALongTime() {
        throughIn("L" + "h00359".repeat(10), 101);
        throughIn("L" + "h00009".repeat(10), 91);
        throughIn(LONG_TIME, 107);
        LongCaterpillars x = Check.house(LONG_TIME);
        x.ticks(60);
        Check.due("throughIn(), 60 ticks on", x.throughIn(), 47);
        x.ticks(47);
        Check.due("throughIn(), through", x.throughIn(), 0);
    }

    private static void notThroughByThen() {
        throughIn("Lx00h00001", NONE);
        throughIn("Lx00h00001h35351t60", NONE);
        throughIn("Lh00032h03002", NONE);
        throughIn("Lh00032h03002t60t60t60t60", NONE);
        // one is in its crack alone, one is out alone
        throughIn("Lh00051x03", NONE);
        throughIn("Lh35351t02h00051x00", NONE);
    }

    private static void bestRule(String text, int due) {
        for (int rule = 0; rule <= 2; rule++) {
            LongCaterpillars x = Check.house(text);
            x.rule(rule);
            Check.due("bestRule() of " + text + ", by the rule " + rule, x.bestRule(), due);
            Check.due("the rule stays", x.about(8), rule);
        }
    }

    private static void ruleOfMostGone() {
        bestRule("Lh00071x01", 1);
        bestRule("Lh00071x06", 0);
        // the rule 2 alone brings both through
        bestRule("Lh00071x01h35281x29", 2);
        // the rules 0 and 1 bring two through each, the rule 2 all three
        bestRule("Lh00071x01h35281x29h30241", 2);
        // more are gone with the rule 1, though with no rule all are
        bestRule("Lh00071x01h35281x34h30301x30", 1);
        // those that are gone already and those that are pulled make no difference
        bestRule("Lh00001h35351t02h00071x01h14149p3", 1);
    }

    private static void ruleOfLeastTicks() {
        // by the rule 0 the first one waits for the second, by the others it goes round
        bestRule("Lh00071h01029", 1);
        // by the rule 1 it waits for the second, by the rule 0 it does not
        bestRule("Lh00071h06129", 0);
        // the rule 0 lets it wait, the rule 1 does not bring all through, the rule 2 goes round
        bestRule("Lh00071h01029h30251x24", 2);
        // one waits by the rule 0, another one by the rule 1, none by the rule 2
        bestRule("Lh00071h01029h35281h29239", 2);
    }

    private static void ruleIfNoneIsThrough() {
        bestRule("Lx00h00071", 0);
        bestRule("Lx35h00351h30301", 0);
        // one more gone is better than any number of ticks
        bestRule("Lx00h00071h14211x15", 1);
        bestRule("Lx00h00071h14211x20", 0);
    }

    private static void lowestRule() {
        bestRule("L", 0);
        bestRule("Lh00001", 0);
        bestRule("Lh00359", 0);
        bestRule("Lh00359p0", 0);
        bestRule("Lh00071x01", 1);
        bestRule("Lh00071x01x06", 0);
    }

    private static void pull(String text, int due) {
        Check.due("bestPull() of " + text, Check.house(text).bestPull(), due);
    }

    private static void pullInTheCrackOrOut() {
        // in a ring later, but in their cracks now; out, in the ring
        pull("Lh00032h03002", 0);
        pull("Lh00032h03002t02", 0);
        // a gone one and a pulled one before them are none of those
        pull("Lh35351t02h00032h03002t02", 1);
        pull("Lh35351p0h00032h03002t02", 1);
        // one that will be in its crack for ever helps by no pull, nor does the pull of a pulled one
        pull("Lx35h35351h00032h03002", 1);
        pull("Lh00032h03002t02p0", NONE);
    }

    private static void pullMoreGone() {
        // two behind one that can't go on
        pull("Lx02h00032h00001h06001", 0);
        // a ring, and one that waits for one of the ring: its own pull brings none through
        pull("Lh06001h00032h03002t02", 1);
        // one that others wait for, but that is gone itself later: as many are without the pull
        pull("Lh00009h00001", NONE);
    }

    private static void pullOfTheseOthers() {
        // 1 would be gone itself; with its pull 0 is, without 1 is: one each, but none of the others
        pull("Lr2x21x26h14281h15151t01", 1);
        // 0 would be gone itself, and so would 1, with the pull or without
        pull("Lh00003h00003", NONE);
        // those that are gone already are counted on both sides
        pull("Lh35351h30301h05051t02h00032h03002t02", 3);
        pull("Lh35351h30301h05051t02h00359", NONE);
    }

    private static void pullMostGone() {
        // 0 is in the way of one, 2 in that of two
        pull("Lx02x32h30332h24301h00032h00001h06001", 2);
        pull("Lx02x32h00032h00001h06001h30332h24301", 0);
        // the pull of 1, which would be gone, brings 0 through, the pull of 2, which would not, brings 3:
        // behind the one there is 0 gone, behind the other there are 1 and 3
        pull("Lr2x21x26h14281h15151x32h30332h24301", 2);
    }

    private static void lowestPull() {
        pull("Lh00032h03002", 0);
        pull("Lh35351h00032h03002", 1);
        pull("Lx02x32h00032h06001h30332h24301", 0);
        pull("Lx02x32h30332h24301h00032h06001", 0);
        pull("Lh07093h09213h21193h19073t02", 0);
    }

    private static void noPull() {
        pull("L", NONE);
        pull("Lh00001", NONE);
        pull("Lh00001t02", NONE);
        pull("Lh00001p0", NONE);
        pull("Lx00h00001h00001", NONE);
        pull("Lh00359h35001", NONE);
        // one that can't go on, but in nobody's way; and one that no pull of another one helps
        pull("Lx01h00051h35351", NONE);
        pull("Lx01h00051h35351t60", NONE);
    }

    private static void hatchedNow() {
        LongCaterpillars x = Check.house("Lh00009t01");
        Check.due("ifHatched(0, 0, 1), behind the other one", x.ifHatched(0, 0, 1), 10);
        Check.due("ifHatched(35, 35, 1)", x.ifHatched(35, 35, 1), 2);
        Check.due("ifHatched(35, 1, 9)", x.ifHatched(35, 1, 9), 19);
        Check.due("ifHatched(2, 0, 2), it waits before the other one", x.ifHatched(2, 0, 2), 11);
        x.shut(30, true);
        Check.due("ifHatched(30, 35, 1), a shut crack", x.ifHatched(30, 35, 1), NONE);
        Check.due("ifHatched(24, 30, 1), a shut leaf", x.ifHatched(24, 30, 1), NONE);
        Check.due("about(0), it is not hatched", x.about(0), 1);
        // it can be in the way of others, and they in its: then none is gone
        LongCaterpillars y = Check.house("Lh00032");
        Check.due("ifHatched(3, 0, 2), a ring", y.ifHatched(3, 0, 2), NONE);
        y.ticks(5);
        Check.due("ifHatched(3, 0, 2), the other one has a last part there", y.ifHatched(3, 0, 2), 6);
    }

    private static void hatchedAsTheEleventh() {
        LongCaterpillars x = new LongCaterpillars();
        for (int i = 0; i < 10; i++) {
            Check.due("ifHatched(35, 35, 1) as number " + i, x.ifHatched(35, 35, 1), 2);
            x.hatch(i, i, 1);
        }
        Check.due("ifHatched(35, 35, 1) as number 10", x.ifHatched(35, 35, 1), NONE);
        x.ticks(2);
        Check.due("ifHatched(35, 35, 1), all ten gone", x.ifHatched(35, 35, 1), NONE);
        LongCaterpillars y = Check.house("L" + "h00001".repeat(10) + "p0p1p2");
        Check.due("ifHatched(35, 35, 1), three pulled", y.ifHatched(35, 35, 1), NONE);
    }

    private static void ifHatchedNoRoom() {
        for (int count = 0; count <= 10; count += 5) {
            LongCaterpillars x = Check.house("L" + "h00001".repeat(count));
            int[] none = {-1, 36, Integer.MIN_VALUE, Integer.MAX_VALUE};
            for (int k : none) {
                Check.noSuch("ifHatched(" + k + ", 0, 1), " + count + " there", () -> x.ifHatched(k, 0, 1));
                Check.noSuch("ifHatched(0, " + k + ", 1), " + count + " there", () -> x.ifHatched(0, k, 1));
            }
        }
    }

    private static void ifHatchedNoLength() {
        for (int count = 0; count <= 10; count += 5) {
            LongCaterpillars x = Check.house("L" + "h00001".repeat(count));
            int[] none = {0, 10, -1, Integer.MIN_VALUE, Integer.MAX_VALUE};
            for (int length : none) {
                Check.refused("ifHatched(35, 35, " + length + "), " + count + " there",
                        () -> x.ifHatched(35, 35, length));
            }
            Check.due("ifHatched(35, 35, 1), " + count + " there", x.ifHatched(35, 35, 1), count < 10 ? 2 : NONE);
            Check.due("ifHatched(35, 35, 9), " + count + " there", x.ifHatched(35, 35, 9), count < 10 ? 10 : NONE);
        }
    }
}
