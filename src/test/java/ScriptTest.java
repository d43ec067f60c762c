/** Promises 24 and 25. */
public final class ScriptTest {

    private static final int NONE = LongCaterpillars.NONE;

    private ScriptTest() {
    }

    public static void main(String[] args) {
        commandsThatSucceed();
        commandsThatFail();
        commandsOnARing();
        commandsOnAFullHouse();
        commandsInTheirOrder();
        aCopyIsUsed();
        refusesScripts();
        simulatesAsByHand();
        simulatesAsTheFace();
        refusesToSimulate();
        Check.end();
    }

    /** 0 lies in 1 and 0 and has a part in its crack, 1 lies in 5 and eats its last part next. */
    private static LongCaterpillars house() {
        return Check.house("Lh00033h05052x10t02");
    }

    private static void script(LongCaterpillars x, int n, long script, int due) {
        Check.due("runScript(" + n + ", " + script + ")", x.runScript(n, script), due);
    }

    private static void commandsThatSucceed() {
        long[] scripts = {100001, 100009, 100010, 100060, 200351, 235009, 235359, 229291, 300000, 300001, 300002,
            410001, 410000, 411001, 435001, 400000, 401000, 500000, 500001, 600001, 601001, 700000, 701000, 705001,
            800000, 900005, 900006, 900200, 900999};
        LongCaterpillars x = house();
        for (long script : scripts) {
            script(x, 1, script, NONE);
        }
    }

    private static void commandsThatFail() {
        long[] scripts = {0, 1, 99999, 100000, 100061, 100099, 100101, 101001, 110001, 236001, 200361, 200350, 240001,
            200991, 300003, 300009, 300010, 300100, 301000, 310000, 410002, 410009, 410011, 410101, 436001, 436000,
            499001, 400001, 401001, 405001, 500002, 500009, 500010, 500100, 501000, 510000, 600000, 600002, 600003,
            600004, 600009, 601000, 602000, 602001, 609003, 610001, 600011, 600101, 700001, 702000, 702001, 702009,
            705000, 736000, 736009, 799009, 700010, 700100, 705011, 800001, 800002, 800009, 800010, 800100, 801000,
            810000, 900000, 900004, 901005, 910005, 999999};
        LongCaterpillars x = house();
        for (long script : scripts) {
            script(x, 1, script, 0);
        }
    }

    private static void commandsOnARing() {
        LongCaterpillars x = Check.house("Lh00032h03002t02");
        script(x, 1, 800001, NONE);
        script(x, 1, 800000, 0);
        script(x, 1, 800002, 0);
        script(x, 1, 800011, 0);
        script(x, 1, 900999, 0);
        script(x, 3, 500001_800000_900004L, NONE);
        script(x, 3, 500001_800000_900003L, 2);
        script(x, 2, 500001_800001L, 1);
        script(x, 2, 600001_601000L, 1);
    }

    private static void commandsOnAFullHouse() {
        LongCaterpillars x = Check.house("Lh00001h00001h00001h00001h00001h00001h00001h00001h00001");
        script(x, 2, 200001_609000L, NONE);
        script(x, 2, 200001_200001L, 1);
        script(x, 1, 609000, 0);
        script(x, 2, 200001_509000L, 1);
        script(x, 3, 200001_500009_609003L, NONE);
        script(x, 3, 200001_500009_500009L, 2);
        // gone ones can't be pulled
        script(x, 3, 100002_600002_500000L, 2);
    }

    private static void commandsInTheirOrder() {
        LongCaterpillars x = house();
        script(x, 2, 100001_601002L, NONE);
        script(x, 2, 601002_100001L, 0);
        script(x, 2, 601001_601002L, 1);
        script(x, 2, 100001, 0);
        script(x, 2, 100001_000000L, 1);
        script(x, 3, 100001_100001L, 0);
        script(x, 3, 500000_600003_900001L, NONE);
        script(x, 3, 500000_600001_900001L, 1);
        script(x, 3, 500000_600003_900000L, 2);
        script(x, 3, 500000_400001_700000L, 2);
        script(x, 3, 402001_100009_600001L, NONE);
        script(x, 3, 300001_206211_100002L, NONE);
        script(x, 3, 206311_100002_713002L, 2);
        script(x, 3, 206311_100003_713002L, NONE);
    }

    private static void aCopyIsUsed() {
        LongCaterpillars x = house();
        script(x, 3, 500000_410000_100060L, NONE);
        Check.due("about(4), behind a script", x.about(4), 0);
        Check.due("about(5), behind a script", x.about(5), 2);
        Check.due("about(7), behind a script", x.about(7), 1);
        Check.dueThrow("undo(), behind a script", IllegalStateException.class, x::undo);
        script(x, 3, 500000_410000_100060L, NONE);
    }

    private static void refused(LongCaterpillars x, int n, long script) {
        Check.dueThrow("runScript(" + n + ", " + script + ")", IllegalArgumentException.class,
                () -> x.runScript(n, script));
    }

    private static void refusesScripts() {
        LongCaterpillars x = house();
        refused(x, 0, 0);
        refused(x, 4, 100001);
        refused(x, -1, 100001);
        refused(x, Integer.MAX_VALUE, 100001);
        refused(x, Integer.MIN_VALUE, 100001);
        refused(x, 1, -1);
        refused(x, 1, -100001);
        refused(x, 3, Long.MIN_VALUE);
        refused(x, 1, 1_000000L);
        refused(x, 2, 1_000000_000000L);
        refused(x, 3, 1_000000_000000_000000L);
        refused(x, 3, Long.MAX_VALUE);
        script(x, 1, 999999, 0);
        script(x, 2, 999999_999999L, 0);
        script(x, 3, 999999_999999_999999L, 0);
    }

    /** One turn each: the numbers r are those of the document's formula, worked out apart. */
    private static void simulatesAsByHand() {
        LongCaterpillars x = Check.house("Lh00001t01");
        boolean[] seen = new boolean[8];
        for (long seed = 0; seed < 200; seed++) {
            int r = (int) ((seed * 6364136223846793005L + 1442695040888963407L) >>> 33);
            int kind = r % 8;
            int q = r / 8;
            seen[kind] = true;
            boolean goes = kind >= 5 || (kind == 4 && q / 16 % 4 != 0);
            Check.due("simulate(" + seed + ", 1)", x.simulate(seed, 1), goes ? 1000 : 0);
        }
        for (int kind = 0; kind < 8; kind++) {
            Check.due("turns of the kind " + kind, seen[kind] ? 1 : 0, 1);
        }
    }

    private static void simulatesAsTheFace() {
        String[] houses = {"L", "Lh00033h03002h12121h20203x12t01", "Lh00359h00359h35009h35009t03",
            "Lr2h00359h35009h05309h30059h14219h21149t02"};
        int many = 0;
        for (String text : houses) {
            for (long seed = -40; seed < 40; seed++) {
                for (int m = 1; m <= 60; m += 1 + m / 3) {
                    long mixed = seed * 0x9E3779B97F4A7C15L;
                    int due = byTheFace(text, mixed, m);
                    many += due % 1000 == 999 ? 1 : 0;
                    Check.due("simulate(" + mixed + ", " + m + ") of " + text,
                            Check.house(text).simulate(mixed, m), due);
                }
            }
        }
        int stuck = byTheFace(STUCK, 1, 60);
        Check.due("waits told of one where all wait", stuck % 1000, 999);
        Check.due("simulate(1, 60) where all wait", Check.house(STUCK).simulate(1, 60), stuck);
        if (many == 0) {
            Check.tell("no simulation had more than 999 waits");
        }
    }

    private static final String STUCK = "Lh00009h00009h00009h00009h00009h00009h00009h00009h00009h00009x00";

    /** The turns done by the calls of the face; in the end what is asked for is told by it. */
    private static int byTheFace(String text, long seed, int m) {
        LongCaterpillars x = Check.house(text);
        int waits = x.about(9);
        long r = seed;
        for (int turn = 0; turn < m; turn++) {
            r = r * 6364136223846793005L + 1442695040888963407L;
            try {
                Turns.byTheFace(x, (int) (r >>> 33));
            } catch (IndexOutOfBoundsException | IllegalArgumentException | IllegalStateException e) {
                continue;
            }
        }
        return 1000 * x.about(3) + Math.min(999, x.about(9) - waits);
    }

    private static void refusesToSimulate() {
        LongCaterpillars x = house();
        for (int m : new int[] {0, -1, 61, Integer.MIN_VALUE, Integer.MAX_VALUE}) {
            Check.dueThrow("simulate(1, " + m + ")", IllegalArgumentException.class, () -> x.simulate(1, m));
        }
        Check.due("about(5), behind simulations", x.about(5), 2);
    }
}
