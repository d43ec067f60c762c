/** Runs of calls on the class and on Model: every answer and every exception must be the same. */
public final class ModelTest {

    private static final int RUNS = 600;
    private static final int CALLS = 200;

    private final LongCaterpillars made = new LongCaterpillars();
    private final Model model = new Model();
    private final int run;
    private long x;

    private ModelTest(int run) {
        this.run = run;
        this.x = run * 0x9E3779B97F4A7C15L + 1;
    }

    public static void main(String[] args) {
        for (int run = 0; run < RUNS; run++) {
            new ModelTest(run).goOn();
        }
        Check.end();
    }

    /** A number from 0 to bound - 1; the same ones each time. */
    private int any(int bound) {
        x = x * 6364136223846793005L + 1442695040888963407L;
        return (int) ((x >>> 33) % bound);
    }

    private static String outcome(Check.Call call) {
        try {
            return Integer.toString(call.answer());
        } catch (RuntimeException e) {
            return "throws." + e.getClass().getSimpleName();
        }
    }

    private void same(String call, Check.Call ofMade, Check.Call ofModel) {
        String got = outcome(ofMade);
        String want = outcome(ofModel);
        if (!got.equals(want)) {
            Check.tell("run " + run + ": " + call + " answered " + got + ", by the model due is " + want);
        }
    }

    private void goOn() {
        if (run % 3 != 0) {
            writeHouse();
            same("load", made::load, model::load);
        }
        for (int k = 0; k < CALLS; k++) {
            int kind = any(20);
            if (kind < 12) {
                act(kind);
            } else if (kind < 16) {
                askWhatWouldBe(any(7));
            } else if (kind < 18) {
                keep(any(12));
            } else {
                textCall(any(8));
            }
            if (k % 4 == 0) {
                lookAround();
            }
        }
        Check.due("run " + run, 0, 0);
    }

    /** Mostly a room, of a corner of the house in some runs, so that the caterpillars meet. */
    private int anyRoom() {
        if (any(25) == 0) {
            return any(40) - 2;
        }
        if (run % 2 == 0) {
            return any(36);
        }
        return any(4) * 6 + any(4);
    }

    private int anyCaterpillar() {
        return any(20) == 0 ? any(14) - 2 : any(Math.max(1, made.about(0)));
    }

    private int anyLength() {
        return any(25) == 0 ? any(14) - 2 : 1 + any(9);
    }

    private void act(int kind) {
        int k = anyRoom();
        int leaf = anyRoom();
        int length = anyLength();
        int i = anyCaterpillar();
        int n = any(20) == 0 ? any(80) - 5 : 1 + any(6);
        int rule = any(20) == 0 ? any(6) - 1 : any(3);
        boolean shut = any(3) > 0;
        if (kind < 4) {
            same("hatch(" + k + ", " + leaf + ", " + length + ")", () -> made.hatch(k, leaf, length),
                    () -> model.hatch(k, leaf, length));
        } else if (kind < 8) {
            same("ticks(" + n + ")", () -> made.ticks(n), () -> model.ticks(n));
        } else if (kind == 8) {
            same("rule(" + rule + ")", () -> made.rule(rule), () -> model.rule(rule));
        } else if (kind == 9) {
            same("shut(" + k + ", " + shut + ")", () -> made.shut(k, shut), () -> model.shut(k, shut));
        } else if (kind == 10 && any(2) == 0) {
            same("pull(" + i + ")", () -> made.pull(i), () -> model.pull(i));
        } else {
            same("undo()", made::undo, model::undo);
        }
    }

    private void askWhatWouldBe(int kind) {
        int k = anyRoom();
        int leaf = anyRoom();
        int length = anyLength();
        int i = anyCaterpillar();
        int n = any(30) == 0 ? any(6) - 1 : 1 + any(3);
        long script = script(any(30) == 0 ? 4 : n);
        int m = any(30) == 0 ? any(80) - 5 : 1 + any(60);
        long seed = x;
        switch (kind) {
            case 0:
                same("goneIn(" + i + ")", () -> made.goneIn(i), () -> model.goneIn(i));
                break;
            case 1:
                same("throughIn()", made::throughIn, model::throughIn);
                break;
            case 2:
                same("bestRule()", made::bestRule, model::bestRule);
                break;
            case 3:
                same("bestPull()", made::bestPull, model::bestPull);
                break;
            case 4:
                same("ifHatched(" + k + ", " + leaf + ", " + length + ")", () -> made.ifHatched(k, leaf, length),
                        () -> model.ifHatched(k, leaf, length));
                break;
            case 5:
                for (int times = 0; times < 4; times++) {
                    long next = times == 0 ? script : script(n);
                    same("runScript(" + n + ", " + next + ")", () -> made.runScript(n, next),
                            () -> model.runScript(n, next));
                }
                break;
            default:
                same("simulate(" + seed + ", " + m + ")", () -> made.simulate(seed, m), () -> model.simulate(seed, m));
                break;
        }
    }

    private long script(int groups) {
        long script = 0;
        for (int k = 0; k < groups; k++) {
            script = script * 1_000_000 + group();
        }
        return any(40) == 0 ? -script : script;
    }

    private int group() {
        int k = Math.max(0, anyRoom());
        int i = Math.max(0, anyCaterpillar());
        int spoilt = any(12) == 0 ? new int[] {10, 100, 1000, 10000}[any(4)] : 0;
        switch (any(10)) {
            case 1:
                return spoilt + 100000 + any(65);
            case 2:
                return 200000 + 1000 * k + 10 * Math.max(0, anyRoom()) + any(10);
            case 3:
                return spoilt + 300000 + any(4);
            case 4:
                return spoilt + 400000 + 1000 * k + any(3);
            case 5:
                return spoilt + 500000 + i % 10;
            case 6:
                return spoilt + 600000 + i % 10 * 1000 + any(5);
            case 7:
                return spoilt + 700000 + 1000 * (i < made.about(0) && made.caterpillar(i, 1) > 0 ? made.lies(i, 0) : k)
                        + i % 10;
            case 8:
                return spoilt + 800000 + any(3);
            case 9:
                return spoilt + 900000 + any(any(2) == 0 ? 30 : 300);
            default:
                return any(1_000_000);
        }
    }

    private void keep(int kind) {
        int slot = any(10) == 0 ? any(5) - 2 : any(2);
        if (kind < 4) {
            same("save(" + slot + ")", () -> made.save(slot), () -> model.save(slot));
        } else if (kind == 4) {
            same("restore(" + slot + ")", () -> made.restore(slot), () -> model.restore(slot));
        } else if (kind < 8) {
            for (int times = any(16); times > 0; times--) {
                same("undo()", made::undo, model::undo);
            }
        }
    }

    private void textCall(int kind) {
        if (kind == 0) {
            writeHouse();
            if (any(4) == 0) {
                same("load()", made::load, model::load);
            }
        } else if (kind == 1) {
            append(any(10) == 0 ? any(400) - 50 : "Lhtxrp0123456789".charAt(any(16)));
        } else if (kind == 2) {
            writeHouse();
            append("Lhtxrp0123456789".charAt(any(16)));
            append("Lhtxrp0123456789".charAt(any(16)));
        } else if (kind == 3) {
            same("load()", () -> model.errorPosition() == -1 ? 0 : made.load(),
                    () -> model.errorPosition() == -1 ? 0 : model.load());
        }
        same("errorPosition()", made::errorPosition, model::errorPosition);
    }

    private void append(int c) {
        same("append(" + c + ")", () -> made.append(c), () -> model.append(c));
    }

    private void writeHouse() {
        same("clearText()", made::clearText, model::clearText);
        StringBuilder s = new StringBuilder("L");
        int commands = any(20);
        for (int k = 0; k < commands; k++) {
            s.append(command());
        }
        if (any(3) == 0) {
            s.setCharAt(any(s.length()), "Lhtxrp0123456789".charAt(any(16)));
        }
        for (int k = 0; k < s.length(); k++) {
            append(s.charAt(k));
        }
        same("errorPosition()", made::errorPosition, model::errorPosition);
    }

    private String command() {
        switch (any(9)) {
            case 0:
                return String.format("t%02d", 1 + any(60));
            case 1:
                return String.format("t%02d", 1 + any(4));
            case 2:
                return String.format("x%02d", Math.floorMod(anyRoom(), 36));
            case 3:
                return "r" + any(3);
            case 4:
                return "p" + any(10);
            default:
                return String.format("h%02d%02d%d", Math.floorMod(anyRoom(), 36), Math.floorMod(anyRoom(), 36),
                        1 + any(9));
        }
    }

    private void lookAround() {
        for (int what = -1; what <= 10; what++) {
            int w = what;
            same("about(" + w + ")", () -> made.about(w), () -> model.about(w));
        }
        same("ring(0)", () -> made.ring(0), () -> model.ring(0));
        same("ring(1)", () -> made.ring(1), () -> model.ring(1));
        for (int i = -1; i <= made.about(0); i++) {
            lookAt(i);
        }
        for (int k = -1; k <= 36; k++) {
            int at = k;
            same("room(" + at + ", 0)", () -> made.room(at, 0), () -> model.room(at, 0));
            same("room(" + at + ", 1)", () -> made.room(at, 1), () -> model.room(at, 1));
        }
    }

    private void lookAt(int i) {
        for (int what = -1; what <= 9; what++) {
            int w = what;
            same("caterpillar(" + i + ", " + w + ")", () -> made.caterpillar(i, w), () -> model.caterpillar(i, w));
        }
        for (int k = -1; k <= 10; k++) {
            int at = k;
            same("lies(" + i + ", " + at + ")", () -> made.lies(i, at), () -> model.lies(i, at));
        }
        same("next(" + i + ")", () -> made.next(i), () -> model.next(i));
        same("waitsFor(" + i + ")", () -> made.waitsFor(i), () -> model.waitsFor(i));
    }
}
