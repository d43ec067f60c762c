import java.math.BigInteger;
import java.util.function.IntPredicate;

/** The sentences of promises 24 and 25 that name a boundary case, a test for each. */
public final class EdgesOfScriptsTest {

    private static final int NONE = LongCaterpillars.NONE;
    private static final int GROUPS = 1_000_000;
    private static final int CALLS_OF_AN_OBJECT = 500;
    private static final long FACTOR = 6364136223846793005L;
    private static final long SUMMAND = 1442695040888963407L;
    private static final int TWELVE_TICKS = 8 * 11 + 5;

    /** 0 lies in 1 and 0, 1 in 5 with one part left, 2 is gone, 3 pulled; 10 is shut; through in 5 ticks. */
    private static final String SOME = "Lh00033h05052h12121h30009p3x10t02";
    private static final String FULL = "L" + "h00001".repeat(10);

    private EdgesOfScriptsTest() {
    }

    public static void main(String[] args) {
        Check.sentence("24: A script has 1 to 3 commands", EdgesOfScriptsTest::oneToThreeCommands);
        Check.sentence("24: the first command is the highest group of the number", EdgesOfScriptsTest::highestFirst);
        Check.sentence("24: (with zeros before it, if it has fewer digits)", EdgesOfScriptsTest::zerosBeforeIt);
        Check.sentence("24: a number of at most 6 * n digits (0 or more)", EdgesOfScriptsTest::digits);
        Check.sentence("24: 1 0 0 0 n n: ticks(nn)", EdgesOfScriptsTest::ticksCommands);
        Check.sentence("24: 2 c c l l s: hatch(cc, ll, s)", EdgesOfScriptsTest::hatchCommands);
        Check.sentence("24: 3 0 0 0 0 r: rule(r)", EdgesOfScriptsTest::ruleCommands);
        Check.sentence("24: 4 k k 0 0 b: shut(kk, b is 1)", EdgesOfScriptsTest::shutCommands);
        Check.sentence("24: 5 0 0 0 0 i: pull(i)", EdgesOfScriptsTest::pullCommands);
        Check.sentence("24: 6 0 i 0 0 w: succeeds if the caterpillar i is where w tells",
                EdgesOfScriptsTest::whereCommands);
        Check.sentence("24: 7 k k 0 0 i: succeeds if the room kk is taken by the caterpillar i",
                EdgesOfScriptsTest::takenCommands);
        Check.sentence("24: 8 0 0 0 0 b: succeeds if there is a ring and b is 1, or none and b is 0",
                EdgesOfScriptsTest::ringCommands);
        Check.sentence("24: 9 0 0 n n n: succeeds if throughIn() is at most nnn, and not NONE",
                EdgesOfScriptsTest::throughCommands);
        Check.sentence("24: The commands 1 to 5 fail if the method would throw an exception",
                EdgesOfScriptsTest::failIfTheyWouldThrow);
        Check.sentence("24: commands with rooms or caterpillars that do not exist fail",
                EdgesOfScriptsTest::failIfThereIsNoSuch);
        Check.sentence("24: and so does any other group", EdgesOfScriptsTest::allGroups);
        Check.sentence("24: (also one with another digit where a 0 is written", EdgesOfScriptsTest::anotherDigitForA0);
        Check.sentence("24: or a b above 1)", EdgesOfScriptsTest::bAbove1);
        Check.sentence("24: nn, cc, ll, kk and nnn are decimal numbers", EdgesOfScriptsTest::decimalNumbers);
        Check.sentence("24: Runs a script on a copy of the state", EdgesOfScriptsTest::onACopy);
        Check.sentence("24: Returns the index, from 0, of the first command that fails",
                EdgesOfScriptsTest::firstThatFails);
        Check.sentence("24: NONE if all succeed", EdgesOfScriptsTest::allSucceed);
        Check.sentence("24: IllegalArgumentException if n is out of range", EdgesOfScriptsTest::noSuchNumberOfCommands);
        Check.sentence("24: or if script is negative or has more than 6 * n digits", EdgesOfScriptsTest::noSuchScript);
        Check.sentence("25: Simulates m turns, 1 to 60", EdgesOfScriptsTest::oneToSixtyTurns);
        Check.sentence("25: A long x starts as the seed, any long; with long overflow", EdgesOfScriptsTest::anySeed);
        Check.sentence("25: 0 to 2: hatch(q % 36, q / 36 % 36, 1 + q / 1296 % 9)", EdgesOfScriptsTest::hatchTurns);
        Check.sentence("25: 3: rule(q % 3), if q / 4 % 4 is 0", EdgesOfScriptsTest::ruleTurns);
        Check.sentence("25: 3: otherwise shut(q % 36, q / 64 % 4 is 0)", EdgesOfScriptsTest::shutTurns);
        Check.sentence("25: 4: pull(q % 10), if q / 16 % 4 is 0", EdgesOfScriptsTest::pullTurns);
        Check.sentence("25: 4: otherwise ticks(1)", EdgesOfScriptsTest::oneTickTurns);
        Check.sentence("25: Otherwise: ticks(1 + q % 12)", EdgesOfScriptsTest::ticksTurns);
        Check.sentence("25: What would throw an exception is left out", EdgesOfScriptsTest::leftOutTurns);
        Check.sentence("25: on a copy of the state", EdgesOfScriptsTest::simulatesOnACopy);
        Check.sentence("25: 1000 * (the gone ones at the end)", EdgesOfScriptsTest::goneAtTheEnd);
        Check.sentence("25: how often any waited in the turns", EdgesOfScriptsTest::waitsInTheTurns);
        Check.sentence("25: or 999 if that is more", EdgesOfScriptsTest::at999);
        Check.sentence("25: IllegalArgumentException if m is out of range", EdgesOfScriptsTest::noSuchTurns);
        Check.end();
    }

    // ---- scripts

    private static void script(String text, int n, long script, int due) {
        Check.due("runScript(" + n + ", " + script + ") of " + text, Check.house(text).runScript(n, script), due);
    }

    private static void succeeds(String text, int group) {
        script(text, 1, group, NONE);
    }

    private static void fails(String text, int group) {
        script(text, 1, group, 0);
    }

    private static void refused(int n, long script) {
        LongCaterpillars x = Check.house(SOME);
        Check.refused("runScript(" + n + ", " + script + ")", () -> x.runScript(n, script));
    }

    private static void oneToThreeCommands() {
        script(SOME, 1, 100001, NONE);
        script(SOME, 2, 100001_100001L, NONE);
        script(SOME, 3, 100001_100001_100001L, NONE);
        refused(0, 0);
        refused(4, 100001_100001_100001L);
    }

    private static void highestFirst() {
        // a rule, then what it is not: the order tells
        script("Lh00001", 2, 100002_600002L, NONE);
        script("Lh00001", 2, 600002_100002L, 0);
        script("Lh00001", 3, 600000_100001_600001L, NONE);
        script("Lh00001", 3, 600001_100001_600000L, 0);
        script("Lh00001", 3, 100001_600001_600000L, 2);
        script("Lh00001", 3, 100001_600000_600001L, 1);
    }

    private static void zerosBeforeIt() {
        script(SOME, 1, 1, 0);
        script(SOME, 2, 100001, 0);
        script(SOME, 3, 100001, 0);
        script(SOME, 3, 100001_100001L, 0);
        script(SOME, 2, 1_100001L, 0);
        script(SOME, 3, 1_100001_100001L, 0);
        // zeros behind the first group count in the middle and at the end
        script(SOME, 3, 100001_000000_100001L, 1);
        script(SOME, 3, 100001_100001_000000L, 2);
        script(SOME, 2, 100001_000001L, 1);
    }

    private static void digits() {
        script(SOME, 1, 0, 0);
        script(SOME, 2, 0, 0);
        script(SOME, 3, 0, 0);
        script(SOME, 1, 999999, 0);
        script(SOME, 2, 999999_999999L, 0);
        script(SOME, 3, 999999_999999_999999L, 0);
        script(SOME, 3, 900999_900999_900999L, NONE);
        refused(1, 1_000000L);
        refused(2, 1_000000_000000L);
        refused(3, 1_000000_000000_000000L);
        refused(3, 9_000000_000000_000000L);
        refused(1, 100001_100001L);
        refused(1, 1_000000_000000L);
        refused(2, 100001_100001_100001L);
    }

    private static void ticksCommands() {
        succeeds(SOME, 100001);
        succeeds(SOME, 100060);
        fails(SOME, 100000);
        fails(SOME, 100061);
        fails(SOME, 100099);
        fails(SOME, 100100);
        fails(SOME, 101001);
        fails(SOME, 110001);
        // so many go by
        script("Lh00359", 3, 100019_600001_100001L, NONE);
        script("Lh00359", 3, 100019_100001_600002L, NONE);
        script("Lh00359", 2, 100019_600002L, 1);
    }

    private static void hatchCommands() {
        succeeds(SOME, 200001);
        succeeds(SOME, 235359);
        fails(SOME, 200000);
        fails(SOME, 236001);
        fails(SOME, 200361);
        fails(SOME, 299999);
        // crack, leaf and length are those
        script("L", 3, 235349_100011_600002L, NONE);
        script("L", 3, 235349_100010_600001L, NONE);
        script("L", 3, 235349_100001_735000L, NONE);
        script("L", 3, 203041_100002_704000L, NONE);
        // as the next number
        script("Lh00001", 2, 200351_601000L, NONE);
        script(FULL, 1, 200001, 0);
    }

    private static void ruleCommands() {
        for (int rule = 0; rule <= 2; rule++) {
            succeeds(SOME, 300000 + rule);
        }
        fails(SOME, 300003);
        fails(SOME, 300009);
        fails(SOME, 300010);
        fails(SOME, 310000);
        // by the rule 1 alone, or by the rule 2, it comes through
        script("Lh00071x01", 2, 300001_900004L, NONE);
        script("Lh00071x01", 2, 300002_900004L, NONE);
        script("Lh00071x01r1", 2, 300000_900999L, 1);
    }

    private static void shutCommands() {
        succeeds("L", 400000);
        succeeds("L", 400001);
        succeeds("L", 435000);
        succeeds("L", 435001);
        fails("L", 400002);
        fails("L", 400009);
        fails("L", 400010);
        fails("L", 400101);
        fails("L", 436000);
        fails("L", 436001);
        // taken: it can be opened, but not be shut
        succeeds("Lh00009t01", 400000);
        fails("Lh00009t01", 400001);
        // 1 shuts, 0 opens
        script("Lh00001", 3, 400001_100001_600000L, NONE);
        script("Lh00001x00", 3, 400000_100001_600001L, NONE);
    }

    private static void pullCommands() {
        succeeds(FULL, 500000);
        succeeds(FULL, 500009);
        fails("L", 500000);
        fails("Lh00001", 500001);
        fails("Lh00001t02", 500000);
        fails("Lh00001p0", 500000);
        fails(FULL, 500010);
        fails(FULL, 510000);
        script(FULL, 3, 500009_609003_608000L, NONE);
        script(FULL, 2, 500009_500009L, 1);
    }

    private static void whereCommands() {
        // one of each: in its crack, out, gone, pulled
        String[] texts = {"Lh00001", "Lh00001t01", "Lh00001t02", "Lh00001p0"};
        for (int where = 0; where < 4; where++) {
            for (int w = 0; w <= 9; w++) {
                script(texts[where], 1, 600000 + w, w == where ? NONE : 0);
            }
        }
        for (int i = 0; i <= 9; i++) {
            succeeds(FULL, 600000 + 1000 * i);
            script("Lh00001h00001", 1, 600000 + 1000 * i, i < 2 ? NONE : 0);
        }
        fails(FULL, 610000);
        fails(FULL, 600010);
        fails(FULL, 600100);
    }

    private static void takenCommands() {
        String text = "Lh00351h35001t01";
        succeeds(text, 700000);
        succeeds(text, 735001);
        fails(text, 700001);
        fails(text, 735000);
        fails(text, 701000);
        fails(text, 700010);
        fails(text, 700100);
        // by a caterpillar that does not exist, though the room is taken by none
        fails(text, 701002);
        fails(text, 701009);
        fails(text, 736000);
        // it is out for a tick, and moves on
        script(text, 3, 701000_100001_701000L, 0);
        script(text, 3, 700000_100001_701000L, NONE);
        fails("Lh00001", 700000);
        succeeds("Lh01011" + "h00001".repeat(9) + "t09", 700009);
    }

    private static void ringCommands() {
        succeeds("L", 800000);
        fails("L", 800001);
        succeeds("Lh00032h03002t02", 800001);
        fails("Lh00032h03002t02", 800000);
        succeeds("Lh00032h03002t01", 800000);
        for (int b = 2; b <= 9; b++) {
            fails("L", 800000 + b);
            fails("Lh00032h03002t02", 800000 + b);
        }
        fails("L", 800010);
        fails("L", 810000);
        script("Lh00032h03002", 3, 800000_100002_800001L, NONE);
    }

    private static void throughCommands() {
        succeeds("L", 900000);
        succeeds("Lh00001t02", 900000);
        fails("Lh00001", 900001);
        succeeds("Lh00001", 900002);
        succeeds("Lh00001", 900003);
        succeeds("Lh00001", 900999);
        String ten = "L" + "h00359".repeat(10);
        fails(ten, 900100);
        succeeds(ten, 900101);
        // NONE is at most nothing
        fails("Lx00h00001", 900000);
        fails("Lx00h00001", 900200);
        fails("Lx00h00001", 900999);
        fails("Lh00001", 901002);
        fails("Lh00001", 910002);
    }

    private static void failIfTheyWouldThrow() {
        fails(SOME, 100000);
        fails(SOME, 100061);
        fails(FULL, 200001);
        fails(SOME, 200000);
        fails(SOME, 300003);
        fails(SOME, 400001);
        fails(SOME, 405001);
        fails(SOME, 500002);
        fails(SOME, 500003);
        fails(SOME, 500004);
        // as things are then: by an earlier command
        script(SOME, 2, 500000_500000L, 1);
        script(SOME, 2, 500000_400001L, NONE);
        script(SOME, 2, 100001_405001L, NONE);
        script(SOME, 2, 100001_500001L, 1);
        script("L" + "h00001".repeat(9), 2, 200001_200001L, 1);
    }

    private static void failIfThereIsNoSuch() {
        int[] ofNoRoom = {236001, 299001, 200361, 200991, 436000, 436001, 499000, 736000, 799000};
        for (int group : ofNoRoom) {
            fails(SOME, group);
        }
        int[] ofNoCaterpillar = {500004, 500009, 604000, 604003, 609000, 700004, 702004, 702009};
        for (int group : ofNoCaterpillar) {
            fails(SOME, group);
        }
    }

    /** Each of the million groups, in a house in which it is known which succeed. */
    private static void allGroups() {
        boolean[] due = new boolean[GROUPS];
        for (int nn = 1; nn <= 60; nn++) {
            due[100000 + nn] = true;
        }
        for (int cc = 0; cc < 36; cc++) {
            for (int ll = 0; ll < 36; ll++) {
                for (int s = 1; s <= 9; s++) {
                    due[200000 + 1000 * cc + 10 * ll + s] = true;
                }
            }
        }
        for (int kk = 0; kk < 36; kk++) {
            due[400000 + 1000 * kk] = true;
            due[400001 + 1000 * kk] = kk != 0 && kk != 1 && kk != 5;
        }
        int[] others = {300000, 300001, 300002, 500000, 500001, 600001, 601001, 602002, 603003, 700000, 701000, 705001,
            800000};
        for (int group : others) {
            due[group] = true;
        }
        for (int nnn = 5; nnn <= 999; nnn++) {
            due[900000 + nnn] = true;
        }
        allGroupsAre(SOME, 0, due);
        // with ten caterpillars none can be hatched
        allGroupsAre(FULL, 200000, new boolean[100_000]);
    }

    private static void allGroupsAre(String text, int first, boolean[] due) {
        LongCaterpillars x = Check.house(text);
        for (int k = 0; k < due.length; k++) {
            if (k % CALLS_OF_AN_OBJECT == 0) {
                x = Check.house(text);
            }
            Check.due("runScript(1, " + (first + k) + ") of " + text, x.runScript(1, first + k), due[k] ? NONE : 0);
        }
    }

    /** The group succeeds, but not with another digit at one of the places, of which 1 is that of the last digit. */
    private static void zeros(int group, int... places) {
        succeeds(SOME, group);
        for (int place : places) {
            for (int digit = 1; digit <= 9; digit++) {
                fails(SOME, group + digit * place);
            }
        }
    }

    private static void anotherDigitForA0() {
        zeros(100001, 10_000, 1000, 100);
        zeros(300001, 10_000, 1000, 100, 10);
        zeros(410000, 100, 10);
        zeros(410001, 100, 10);
        zeros(500000, 10_000, 1000, 100, 10);
        zeros(600001, 10_000, 100, 10);
        zeros(700000, 100, 10);
        zeros(800000, 10_000, 1000, 100, 10);
        zeros(900005, 10_000, 1000);
        // nor is a 0 the first digit of a command
        for (int group = 0; group < 100_000; group += 11_111) {
            fails(SOME, group);
        }
    }

    private static void bAbove1() {
        for (int b = 2; b <= 9; b++) {
            fails(SOME, 410000 + b);
            fails(SOME, 400000 + b);
            fails(SOME, 800000 + b);
            fails("Lh00032h03002t02", 800000 + b);
        }
    }

    private static void decimalNumbers() {
        script("Lh00009", 2, 100010_600002L, NONE);
        script("Lh00009", 2, 100009_600001L, NONE);
        script("L", 3, 210119_100001_710000L, NONE);
        script("L", 3, 210119_100002_711000L, NONE);
        script("Lh10101", 2, 410001_900999L, 1);
        script("Lx10h10101", 2, 410000_900002L, NONE);
        fails("L" + "h00009".repeat(10), 900090);
        succeeds("L" + "h00009".repeat(10), 900091);
        succeeds("Lh00009", 900010);
        fails("Lh00009", 900009);
    }

    private static void onACopy() {
        LongCaterpillars x = Check.house(SOME);
        String before = Reading.state(x);
        x.runScript(3, 500000_200359_100060L);
        x.runScript(3, 300002_410000_420001L);
        x.runScript(3, 100060_100060_999999L);
        Check.dueState("the state stays", x, before);
        Check.notNow("undo() behind scripts", x::undo);
        // each script begins with the state as it is
        Check.due("runScript(2, pull)", x.runScript(2, 500000_600003L), NONE);
        Check.due("runScript(2, pull) again", x.runScript(2, 500000_600003L), NONE);
    }

    private static void firstThatFails() {
        script(SOME, 1, 0, 0);
        script(SOME, 2, 0, 0);
        script(SOME, 3, 0, 0);
        script(SOME, 2, 100001_000000L, 1);
        script(SOME, 3, 100001_000000_000000L, 1);
        script(SOME, 3, 100001_100001_000000L, 2);
        script(SOME, 3, 999999_100001_000000L, 0);
        // what is behind it is not done, and can't fail
        script(SOME, 3, 100061_500000_500000L, 0);
    }

    private static void allSucceed() {
        script(SOME, 1, 100001, NONE);
        script(SOME, 2, 600001_800000L, NONE);
        script(SOME, 3, 600001_800000_900005L, NONE);
        script("L", 3, 200001_100002_600002L, NONE);
    }

    private static void noSuchNumberOfCommands() {
        int[] none = {0, -1, 4, Integer.MIN_VALUE, Integer.MAX_VALUE};
        for (int n : none) {
            refused(n, 0);
            refused(n, 100001);
            refused(n, -1);
        }
    }

    private static void noSuchScript() {
        for (int n = 1; n <= 3; n++) {
            refused(n, -1);
            refused(n, -100001);
            refused(n, -999999_999999_999999L);
            refused(n, Long.MIN_VALUE);
            refused(n, Long.MAX_VALUE);
        }
        refused(1, 1_000000L);
        refused(1, 1_100001L);
        refused(2, 1_100001_100001L);
        refused(3, 1_100001_100001_100001L);
    }

    // ---- simulations

    private static long after(long x) {
        return x * FACTOR + SUMMAND;
    }

    private static int numberOf(long x) {
        return (int) (x >>> 33);
    }

    /** The number by which FACTOR must be multiplied to give 1, with long overflow. */
    private static long factorBack() {
        return BigInteger.valueOf(FACTOR).modInverse(BigInteger.ONE.shiftLeft(64)).longValue();
    }

    /** A seed with which the first turn has this r, and the turns behind it numbers as they are wanted. */
    private static long seedOf(int r, IntPredicate... behind) {
        for (long low = 0; low < 1L << 33; low++) {
            long x = (long) r << 33 | low;
            boolean found = true;
            long next = x;
            for (int k = 0; k < behind.length && found; k++) {
                next = after(next);
                found = behind[k].test(numberOf(next));
            }
            if (found) {
                return (x - SUMMAND) * factorBack();
            }
        }
        throw new IllegalStateException("no such seed");
    }

    private static IntPredicate ticks(int n) {
        return r -> r % 8 >= 5 && r / 8 % 12 == n - 1;
    }

    private static void simulation(String text, long seed, int m, int due) {
        Check.due("simulate(" + seed + ", " + m + ") of " + text, Check.house(text).simulate(seed, m), due);
    }

    private static void oneToSixtyTurns() {
        // one that waits, in a house that is full and else empty: a turn is at least nothing, at most 12 ticks
        String stuck = "Lx00h00001" + "h35351".repeat(9) + "t60";
        for (int m = 1; m <= 60; m++) {
            for (long seed = 0; seed < 5; seed++) {
                simulation(stuck, seed, m, turnsByTheFace(stuck, seed, m));
            }
        }
        // the first turn has been, the second not yet
        long seed = seedOf(TWELVE_TICKS, ticks(12), ticks(12));
        simulation("Lx00h00001", seed, 1, 12);
        simulation("Lx00h00001", seed, 2, 24);
        simulation("Lx00h00001", seed, 3, 36);
    }

    /** The turns done by the calls of the face, the numbers x worked out without overflow. */
    private static int turnsByTheFace(String text, long seed, int m) {
        LongCaterpillars x = Check.house(text);
        int waits = x.about(9);
        BigInteger wrap = BigInteger.ONE.shiftLeft(64);
        BigInteger number = BigInteger.valueOf(seed).mod(wrap);
        for (int turn = 0; turn < m; turn++) {
            number = number.multiply(BigInteger.valueOf(FACTOR)).add(BigInteger.valueOf(SUMMAND)).mod(wrap);
            try {
                Turns.byTheFace(x, number.shiftRight(33).intValueExact());
            } catch (IndexOutOfBoundsException | IllegalArgumentException | IllegalStateException e) {
                continue;
            }
        }
        return 1000 * x.about(3) + Math.min(999, x.about(9) - waits);
    }

    private static void anySeed() {
        long[] seeds = {0, 1, -1, Long.MIN_VALUE, Long.MAX_VALUE, Long.MIN_VALUE + 1, 1L << 32, 1L << 33, -1L << 33,
            SUMMAND, -SUMMAND, FACTOR};
        String[] texts = {"L", SOME, "Lx00h00001", FULL};
        for (long seed : seeds) {
            for (String text : texts) {
                for (int m = 1; m <= 60; m += m < 3 ? 1 : 19) {
                    simulation(text, seed, m, turnsByTheFace(text, seed, m));
                }
            }
        }
        // the lowest and the highest r: hatch(0, 0, 1), and ticks
        simulation("Lh00001t01", seedOf(0, ticks(12)), 2, 2000);
        simulation("Lx00h00001", seedOf(Integer.MAX_VALUE), 1, 1 + (Integer.MAX_VALUE / 8) % 12);
    }

    private static void hatchTurns() {
        int[] ends = {0, 35};
        for (int kind = 0; kind <= 2; kind++) {
            for (int crack : ends) {
                for (int leaf : ends) {
                    hatchTurn(kind, crack, leaf, 1);
                    hatchTurn(kind, crack, leaf, 9);
                }
            }
        }
        hatchTurn(0, 1, 35, 5);
        hatchTurn(1, 34, 6, 8);
        hatchTurn(2, 17, 18, 2);
    }

    private static void hatchTurn(int kind, int crack, int leaf, int length) {
        int steps = Math.abs(crack % 6 - leaf % 6) + Math.abs(crack / 6 - leaf / 6);
        int needed = 1 + steps + length;
        // as all numbers of a kind do, one far up as well
        for (int far = 0; far <= 11664 * 23000; far += 11664 * 23000) {
            int r = 8 * (crack + 36 * leaf + 1296 * (length - 1) + far) + kind;
            int half = needed / 2;
            simulation("L", seedOf(r, ticks(half), ticks(needed - half)), 3, 1000);
            simulation("Lx35x00x01x34", seedOf(r, ticks(1)), 2, isShut(crack) ? 1 : 0);
            if (needed - half > 1) {
                simulation("L", seedOf(r, ticks(half), ticks(needed - half - 1)), 3, 0);
            }
        }
    }

    private static boolean isShut(int k) {
        return k == 35 || k == 0 || k == 1 || k == 34;
    }

    private static void ruleTurns() {
        // q / 4 % 4 is 0 for 0 to 3, and for 16 to 19
        simulation("Lh00071x01r1", seedOf(8 * 0 + 3, ticks(4)), 2, 3);
        simulation("Lh00071x01", seedOf(8 * 1 + 3, ticks(4)), 2, 1000);
        simulation("Lh00071x01", seedOf(8 * 2 + 3, ticks(4)), 2, 1000);
        simulation("Lh00071x01r1", seedOf(8 * 3 + 3, ticks(4)), 2, 3);
        simulation("Lh00071x01", seedOf(8 * 16 + 3, ticks(4)), 2, 1000);
        simulation("Lh00071x01r1", seedOf(8 * 18 + 3, ticks(4)), 2, 3);
        simulation("Lh00071x06r1", seedOf(8 * 19 + 3, ticks(4)), 2, 3);
        // the rule 2 goes round either
        simulation("Lh00071x06r1", seedOf(8 * 2 + 3, ticks(4)), 2, 1000);
        simulation("Lh00071x06r1", seedOf(8 * 17 + 3, ticks(4)), 2, 1000);
        // no room is shut or opened by it
        simulation("Lh00001", seedOf(8 * 0 + 3, ticks(2)), 2, 1000);
        simulation("Lx00h00001", seedOf(8 * 288 + 3, ticks(2)), 2, 2);
    }

    /** The lowest number by which the room k is shut, or opened. */
    private static int shutting(int k, boolean shut) {
        for (int q = k; q < GROUPS; q += 36) {
            if (q / 4 % 4 != 0 && (q / 64 % 4 == 0) == shut) {
                return 8 * q + 3;
            }
        }
        throw new IllegalStateException("no such number");
    }

    private static void shutTurns() {
        for (int k = 0; k < 36; k++) {
            String room = (k < 10 ? "0" : "") + k;
            simulation("Lh" + room + room + "1", seedOf(shutting(k, true), ticks(2)), 2, 2);
            simulation("Lh" + room + room + "1", seedOf(shutting(k, false), ticks(2)), 2, 1000);
            simulation("Lx" + room + "h" + room + room + "1", seedOf(shutting(k, false), ticks(2)), 2, 1000);
            simulation("Lx" + room + "h" + room + room + "1", seedOf(shutting(k, true), ticks(2)), 2, 2);
        }
        // q is 4, the lowest, 63, the last before an opening, 68, the first one, 255, the last one, and behind it
        simulation("Lh04041", seedOf(8 * 4 + 3, ticks(2)), 2, 2);
        simulation("Lh27271", seedOf(8 * 63 + 3, ticks(2)), 2, 2);
        simulation("Lx32h32321", seedOf(8 * 68 + 3, ticks(2)), 2, 1000);
        simulation("Lx03h03031", seedOf(8 * 255 + 3, ticks(2)), 2, 1000);
        simulation("Lh08081", seedOf(8 * 260 + 3, ticks(2)), 2, 2);
    }

    private static void pullTurns() {
        String waiting = "Lx00h00001";
        for (int q = 0; q <= 15; q++) {
            // all the others are pulled already, and that one waits
            String text = alone(q % 10);
            simulation(text, seedOf(8 * q + 4, ticks(12)), 2, 0);
            simulation(text, seedOf(8 * ((q + 1) % 10) + 4, ticks(12)), 2, 12);
        }
        simulation(waiting, seedOf(8 * 0 + 4), 1, 0);
        simulation(waiting, seedOf(8 * 70 + 4, ticks(5)), 2, 0);
        simulation(waiting, seedOf(8 * 71 + 4, ticks(5)), 2, 5);
    }

    /** Ten, in a shut room, all pulled but one. */
    private static String alone(int i) {
        StringBuilder s = new StringBuilder("Lx00").append("h00001".repeat(10));
        for (int k = 0; k < 10; k++) {
            if (k != i) {
                s.append('p').append(k);
            }
        }
        return s.toString();
    }

    private static void oneTickTurns() {
        String waiting = "Lx00h00001";
        int[] ofATick = {16, 17, 31, 32, 47, 48, 63, 80, 127, (Integer.MAX_VALUE - 3) / 8};
        for (int q : ofATick) {
            simulation(waiting, seedOf(8 * q + 4), 1, 1);
        }
        int[] ofAPull = {0, 1, 10, 15, 64, 65, 79, 128};
        for (int q : ofAPull) {
            simulation(waiting, seedOf(8 * q + 4), 1, 0);
        }
    }

    private static void ticksTurns() {
        String waiting = "Lx00h00001";
        for (int kind = 5; kind <= 7; kind++) {
            for (int q = 0; q <= 24; q++) {
                simulation(waiting, seedOf(8 * q + kind), 1, 1 + q % 12);
            }
            int last = (Integer.MAX_VALUE - 7) / 8;
            simulation(waiting, seedOf(8 * last + kind), 1, 1 + last % 12);
        }
    }

    private static void leftOutTurns() {
        // the eleventh: the ten that are there, and no other one, go on
        simulation(FULL, seedOf(8 * 35 + 0, ticks(12)), 2, 10_000 + 45);
        simulation(FULL, seedOf(TWELVE_TICKS), 1, 10_000 + 45);
        // a room that is taken stays open: the second one comes out there
        simulation("Lh35351h35351t01", seedOf(shutting(35, true), ticks(2)), 2, 2000);
        simulation("Lh35351h35351t01", seedOf(shutting(35, false), ticks(2)), 2, 2000);
        // one that is gone, pulled, or not there is not pulled
        simulation("Lh00001t02", seedOf(8 * 0 + 4), 1, 1000);
        simulation("Lh00001p0", seedOf(8 * 0 + 4), 1, 0);
        simulation("Lx00h00001", seedOf(8 * 1 + 4, ticks(3)), 2, 3);
        simulation("L", seedOf(8 * 9 + 4), 1, 0);
        // and the turn counts: the next one is the second
        simulation("Lx00h00001", seedOf(8 * 9 + 4, ticks(12), ticks(12)), 2, 12);
    }

    private static void simulatesOnACopy() {
        LongCaterpillars x = Check.house(SOME);
        String before = Reading.state(x);
        int first = x.simulate(5, 60);
        x.simulate(seedOf(8 * 0 + 4), 1);
        x.simulate(seedOf(shutting(20, true)), 1);
        x.simulate(seedOf(8 * 1 + 3), 1);
        x.simulate(seedOf(TWELVE_TICKS), 1);
        x.simulate(seedOf(0), 1);
        Check.dueState("the state stays", x, before);
        Check.notNow("undo() behind simulations", x::undo);
        Check.due("the same simulation answers the same", x.simulate(5, 60), first);
    }

    private static void goneAtTheEnd() {
        simulation("L", seedOf(TWELVE_TICKS), 1, 0);
        simulation("Lh00001", seedOf(8 * 1 + 5), 1, 1000);
        simulation("Lh00001", seedOf(8 * 0 + 5), 1, 0);
        // those that were gone before the turns as well
        simulation("Lh00001t02", seedOf(8 * 0 + 5), 1, 1000);
        simulation("Lh00001t02h35351", seedOf(8 * 1 + 5), 1, 2000);
        simulation("Lh00001h01011h02021h03031h04041h05051h06061h07071h08081h09091", seedOf(8 * 1 + 5), 1, 10_000);
        simulation("Lh00001p0", seedOf(TWELVE_TICKS), 1, 0);
    }

    private static void waitsInTheTurns() {
        simulation("Lh00001", seedOf(8 * 0 + 5), 1, 0);
        // not those before them
        simulation("Lx00h00001t60", seedOf(8 * 0 + 5), 1, 1);
        simulation("Lx00h00001t60", seedOf(8 * 9 + 4), 1, 0);
        // of all that wait, one for each
        simulation("Lx00" + "h00001".repeat(10) + "t07", seedOf(TWELVE_TICKS), 1, 120);
        // also of one that is pulled behind them
        IntPredicate pullsTheFirst = r -> r % 8 == 4 && r / 8 / 16 % 4 == 0 && r / 8 % 10 == 0;
        simulation("Lx00h00001", seedOf(TWELVE_TICKS, pullsTheFirst), 2, 12);
    }

    private static void at999() {
        // ten that wait for ever: the first turns of those that count come to exactly so many
        int[] seen = new int[3];
        for (long seed = 0; seed < 4000 && (seen[0] == 0 || seen[1] == 0 || seen[2] == 0); seed++) {
            lookAt999(seed, seen);
        }
        Check.due("simulations with 998 waits were looked at", seen[0] > 0 ? 1 : 0, 1);
        Check.due("simulations with 999 waits were looked at", seen[1] > 0 ? 1 : 0, 1);
        Check.due("simulations with 1000 waits were looked at", seen[2] > 0 ? 1 : 0, 1);
        String stuck = "Lx00" + "h00009".repeat(10);
        simulation(stuck, seedOf(TWELVE_TICKS, ticks(12), ticks(12), ticks(12)), 4, 480);
    }

    private static void lookAt999(long seed, int[] seen) {
        String stuck = "Lx00" + "h00009".repeat(9);
        LongCaterpillars x = Check.house(stuck);
        long number = seed;
        for (int m = 1; m <= 60 && x.about(9) < 1000; m++) {
            number = after(number);
            try {
                Turns.byTheFace(x, numberOf(number));
            } catch (IndexOutOfBoundsException | IllegalArgumentException | IllegalStateException e) {
                continue;
            }
            int waits = x.about(9);
            if (waits >= 998 && waits <= 1000) {
                seen[waits - 998]++;
                simulation(stuck, seed, m, 1000 * x.about(3) + Math.min(999, waits));
            }
        }
    }

    private static void noSuchTurns() {
        LongCaterpillars x = Check.house(SOME);
        int[] none = {0, -1, 61, Integer.MIN_VALUE, Integer.MAX_VALUE};
        long[] seeds = {0, 1, -1, Long.MIN_VALUE, Long.MAX_VALUE};
        for (int m : none) {
            for (long seed : seeds) {
                Check.refused("simulate(" + seed + ", " + m + ")", () -> x.simulate(seed, m));
            }
        }
    }
}
