/** The sentences of "What it is" and of "Terms" up to WAITING that name a boundary case, a test for each. */
public final class EdgesOfTermsTest {

    private static final int NONE = LongCaterpillars.NONE;

    private EdgesOfTermsTest() {
    }

    public static void main(String[] args) {
        Check.sentence("An object is used for at most 512 calls after it has been made",
                EdgesOfTermsTest::the512thCall);
        Check.sentence("The house has 36 rooms, 0 to 35", EdgesOfTermsTest::roomsThatExist);
        Check.sentence("in 6 rows of 6", EdgesOfTermsTest::rowsEndAtTheWalls);
        Check.sentence("A room is open (at first) or shut", EdgesOfTermsTest::openAtFirst);
        Check.sentence("There are at most 10 caterpillars so far", EdgesOfTermsTest::tenSoFar);
        Check.sentence("numbered from 0", EdgesOfTermsTest::numberedFromZero);
        Check.sentence("Each has a length of 1 to 9 parts", EdgesOfTermsTest::lengths);
        Check.sentence("It is in its crack (at first), out, gone (all its parts have come to the leaf), or pulled",
                EdgesOfTermsTest::whereItIs);
        Check.sentence("it has a part in each, and further parts may be in its crack still, which is in the last"
                + " of these rooms then", EdgesOfTermsTest::partsAndRooms);
        Check.sentence("Several cracks and leaves may be in one room", EdgesOfTermsTest::severalInOneRoom);
        Check.sentence("A room is free if it is open and not taken", EdgesOfTermsTest::freeRooms);
        Check.sentence("In a tick the caterpillars are gone through by their numbers",
                EdgesOfTermsTest::byTheirNumbers);
        Check.sentence("Each does one thing, by how things are then", EdgesOfTermsTest::oneThingEach);
        Check.sentence("if the room of the crack is free, its head comes out, there; otherwise it waits",
                EdgesOfTermsTest::outOfTheCrack);
        Check.sentence("if there are parts in its crack, the next one comes out, and it lies in the same rooms; if not,"
                + " it leaves the last room", EdgesOfTermsTest::eats);
        Check.sentence("When no part is left, it is gone", EdgesOfTermsTest::goneWithTheLastPart);
        Check.sentence("if there are parts in its crack, one comes out, otherwise it leaves the last room",
                EdgesOfTermsTest::goes);
        Check.sentence("If the next room is not free, it waits", EdgesOfTermsTest::waits);
        Check.sentence("with the rule 0 along the row until the column is that of the leaf, then along the column",
                EdgesOfTermsTest::ruleZero);
        Check.sentence("with the rule 1 along the column until the row is that of the leaf, then along the row",
                EdgesOfTermsTest::ruleOne);
        Check.sentence("with the rule 2 along the row, if the column is not that of the leaf and that room is free",
                EdgesOfTermsTest::ruleTwoAlongTheRow);
        Check.sentence("otherwise along the column, if the row is not that of the leaf and that room is free",
                EdgesOfTermsTest::ruleTwoAlongTheColumn);
        Check.sentence("if neither can be, as with the rule 0", EdgesOfTermsTest::ruleTwoIfNeitherCanBe);
        Check.sentence("As each step is nearer to the leaf, the next room is never one in which it lies itself",
                EdgesOfTermsTest::eachStepIsNearer);
        Check.sentence("in a tick that begins now and that it were the first to do something in",
                EdgesOfTermsTest::asTheFirstInTheTick);
        Check.sentence("and the room (that of its crack, or its next room) is taken by the other one",
                EdgesOfTermsTest::waitsForTheTaker);
        Check.sentence("Several are in a ring if the first waits for the second, and so on, and the last for the first",
                EdgesOfTermsTest::rings);
        Check.end();
    }

    private static void the512thCall() {
        // the most ticks and the most waits that there can be: 11 calls, 499 times 60 ticks, and two questions
        LongCaterpillars x = new LongCaterpillars();
        x.shut(0, true);
        for (int i = 0; i < 10; i++) {
            x.hatch(0, 0, 1);
        }
        for (int k = 0; k < 499; k++) {
            x.ticks(60);
        }
        Check.due("about(9), the call 511", x.about(9), 299_400);
        Check.due("about(5), the call 512", x.about(5), 29_940);
    }

    private static final int[] NO_ROOMS = {-1, 36, Integer.MIN_VALUE, Integer.MAX_VALUE};

    private static void roomsThatExist() {
        for (int k : new int[] {0, 35}) {
            LongCaterpillars x = new LongCaterpillars();
            Check.due("room(" + k + ", 0)", x.room(k, 0), NONE);
            Check.due("room(" + k + ", 1)", x.room(k, 1), 0);
            Check.due("ifHatched(" + k + ", " + k + ", 1)", x.ifHatched(k, k, 1), 2);
            Check.due("shut(" + k + ", true)", x.shut(k, true), 1);
            Check.due("shut(" + k + ", false)", x.shut(k, false), 0);
            Check.due("hatch(" + k + ", " + k + ", 1)", x.hatch(k, k, 1), 0);
        }
        for (int k : NO_ROOMS) {
            LongCaterpillars x = new LongCaterpillars();
            Check.noSuch("room(" + k + ", 0)", () -> x.room(k, 0));
            Check.noSuch("room(" + k + ", 1)", () -> x.room(k, 1));
            Check.noSuch("shut(" + k + ", true)", () -> x.shut(k, true));
            Check.noSuch("shut(" + k + ", false)", () -> x.shut(k, false));
            Check.noSuch("hatch(" + k + ", 0, 1)", () -> x.hatch(k, 0, 1));
            Check.noSuch("hatch(0, " + k + ", 1)", () -> x.hatch(0, k, 1));
            Check.noSuch("ifHatched(" + k + ", 0, 1)", () -> x.ifHatched(k, 0, 1));
            Check.noSuch("ifHatched(0, " + k + ", 1)", () -> x.ifHatched(0, k, 1));
        }
    }

    /** The rooms of the head of the caterpillar 0, tick by tick. */
    private static void heads(String text, int... due) {
        LongCaterpillars x = Check.house(text);
        for (int k = 0; k < due.length; k++) {
            x.ticks(1);
            Check.due("head of " + text + " behind " + (k + 1) + " ticks", x.lies(0, 0), due[k]);
        }
    }

    private static void rowsEndAtTheWalls() {
        // from the end of a row to the beginning of the next one is no step
        heads("Lh05061", 5, 4, 3, 2, 1, 0, 6);
        heads("Lr1h05061", 5, 11, 10, 9, 8, 7, 6);
        heads("Lh06051", 6, 7, 8, 9, 10, 11, 5);
        heads("Lr1h06051", 6, 0, 1, 2, 3, 4, 5);
        heads("Lh29301", 29, 28, 27, 26, 25, 24, 30);
        // from corner to corner
        heads("Lh00351", 0, 1, 2, 3, 4, 5, 11, 17, 23, 29, 35);
        heads("Lr1h00351", 0, 6, 12, 18, 24, 30, 31, 32, 33, 34, 35);
        heads("Lh35001", 35, 34, 33, 32, 31, 30, 24, 18, 12, 6, 0);
        heads("Lr1h35001", 35, 29, 23, 17, 11, 5, 4, 3, 2, 1, 0);
        heads("Lh05301", 5, 4, 3, 2, 1, 0, 6, 12, 18, 24, 30);
        heads("Lr1h30051", 30, 24, 18, 12, 6, 0, 1, 2, 3, 4, 5);
        heads("Lh00301", 0, 6, 12, 18, 24, 30);
        heads("Lr1h30351", 30, 31, 32, 33, 34, 35);
    }

    private static void openAtFirst() {
        LongCaterpillars x = new LongCaterpillars();
        for (int k = 0; k < 36; k++) {
            Check.due("room(" + k + ", 1) at first", x.room(k, 1), 0);
        }
        Check.due("shut(0, true)", x.shut(0, true), 1);
        Check.due("room(0, 1), shut", x.room(0, 1), 1);
        Check.due("room(1, 1), another one", x.room(1, 1), 0);
    }

    private static void tenSoFar() {
        LongCaterpillars x = Check.house("Lh00001h06061t02h00009t01");
        for (int i = 3; i < 9; i++) {
            x.hatch(30, 30, 1);
        }
        x.pull(2);
        Check.due("two gone, one pulled: hatch number 9", x.hatch(30, 30, 1), 9);
        Check.notNow("two gone, one pulled: one more", () -> x.hatch(30, 30, 1));
        Check.due("about(0)", x.about(0), 10);
        Check.due("about(3)", x.about(3), 2);
        Check.due("about(4)", x.about(4), 1);
    }

    private static void numberedFromZero() {
        LongCaterpillars x = new LongCaterpillars();
        Check.noSuch("empty: caterpillar(0, 0)", () -> x.caterpillar(0, 0));
        for (int i = 0; i < 10; i++) {
            int behind = i + 1;
            Check.due("hatch", x.hatch(i, i, 1), i);
            Check.due("caterpillar(" + i + ", 6)", x.caterpillar(i, 6), i);
            Check.noSuch("caterpillar(" + behind + ", 6)", () -> x.caterpillar(behind, 6));
        }
    }

    private static void lengths() {
        LongCaterpillars x = new LongCaterpillars();
        for (int length : new int[] {0, 10, -1, Integer.MIN_VALUE, Integer.MAX_VALUE}) {
            Check.refused("hatch, length " + length, () -> x.hatch(0, 0, length));
            Check.refused("ifHatched, length " + length, () -> x.ifHatched(0, 0, length));
        }
        Check.due("hatch, length 1", x.hatch(0, 0, 1), 0);
        Check.due("hatch, length 9", x.hatch(1, 1, 9), 1);
        Check.due("caterpillar(0, 8)", x.caterpillar(0, 8), 1);
        Check.due("caterpillar(1, 8)", x.caterpillar(1, 8), 9);
        Check.due("ifHatched, length 1", x.ifHatched(2, 2, 1), 2);
        Check.due("ifHatched, length 9", x.ifHatched(2, 2, 9), 10);
    }

    private static void whereItIs() {
        LongCaterpillars x = Check.house("Lh00351h06069h12121");
        int[] ofTheFirst = {0, 1, 1, 1, 1, 1, 1, 1, 1, 1, 1, 1, 2, 2};
        int[] ofTheSecond = {0, 1, 1, 1, 1, 1, 1, 1, 1, 1, 2, 2, 2, 2};
        int[] ofTheThird = {0, 1, 2, 2, 2, 2, 2, 2, 2, 2, 2, 2, 2, 2};
        for (int tick = 0; tick < ofTheFirst.length; tick++) {
            Check.due("tick " + tick + ": caterpillar(0, 0)", x.caterpillar(0, 0), ofTheFirst[tick]);
            Check.due("tick " + tick + ": caterpillar(1, 0)", x.caterpillar(1, 0), ofTheSecond[tick]);
            Check.due("tick " + tick + ": caterpillar(2, 0)", x.caterpillar(2, 0), ofTheThird[tick]);
            x.ticks(1);
        }
        LongCaterpillars y = Check.house("Lh00059h06009p0t01p1");
        Check.due("pulled from its crack", y.caterpillar(0, 0), 3);
        Check.due("pulled from its rooms", y.caterpillar(1, 0), 3);
    }

    private static void partsAndRooms() {
        String[] ways = {"h00359", "h00019", "h00009", "h00351", "h35002", "h05308", "h14159"};
        for (String way : ways) {
            for (int rule = 0; rule < 3; rule++) {
                LongCaterpillars x = Check.house("Lr" + rule + way);
                int most = 1 + 10 + 9;
                for (int tick = 0; tick < most; tick++) {
                    lookAtParts(way + ", rule " + rule + ", tick " + tick, x);
                    x.ticks(1);
                }
                Check.due(way + ": parts that have eaten", x.caterpillar(0, 3), x.caterpillar(0, 8));
            }
        }
    }

    private static void lookAtParts(String when, LongCaterpillars x) {
        int rooms = x.caterpillar(0, 1);
        int hidden = x.caterpillar(0, 2);
        Check.due(when + ": all parts", rooms + hidden + x.caterpillar(0, 3), x.caterpillar(0, 8));
        Check.due(when + ": about(6)", x.about(6), rooms);
        for (int k = 0; k < rooms; k++) {
            Check.due(when + ": room " + x.lies(0, k) + " is taken", x.room(x.lies(0, k), 0), 0);
            if (k > 0) {
                int apart = Math.abs(x.lies(0, k) % 6 - x.lies(0, k - 1) % 6)
                        + Math.abs(x.lies(0, k) / 6 - x.lies(0, k - 1) / 6);
                Check.due(when + ": steps from " + x.lies(0, k - 1) + " to " + x.lies(0, k), apart, 1);
            }
        }
        if (rooms > 0 && hidden > 0) {
            Check.due(when + ": its last room", x.lies(0, rooms - 1), x.caterpillar(0, 6));
        }
    }

    private static void severalInOneRoom() {
        LongCaterpillars x = new LongCaterpillars();
        for (int i = 0; i < 10; i++) {
            Check.due("hatch in the same room", x.hatch(14, 14, 1), i);
        }
        // each comes out in the tick in which the one before it is gone
        for (int tick = 2; tick <= 11; tick++) {
            x.ticks(tick == 2 ? 2 : 1);
            Check.due("gone behind " + tick + " ticks", x.about(3), tick - 1);
        }
        LongCaterpillars y = Check.house("Lh14159h14139h15149h13149");
        Check.due("a crack where a leaf is, and a leaf where a crack is: about(1)", y.about(1), 4);
    }

    private static void freeRooms() {
        LongCaterpillars x = Check.house("Lh14161h02029h13019x15");
        x.ticks(3);
        Check.due("a shut room is not free: lies(0, 0)", x.lies(0, 0), 14);
        Check.due("a shut room is not free: caterpillar(0, 4)", x.caterpillar(0, 4), 2);
        x.shut(15, false);
        x.ticks(1);
        Check.due("open again: lies(0, 0)", x.lies(0, 0), 15);
        LongCaterpillars y = Check.house("Lh01019h00021t03");
        Check.due("a taken room is not free: lies(1, 0)", y.lies(1, 0), 0);
        Check.due("a taken room is not free: caterpillar(1, 4)", y.caterpillar(1, 4), 2);
        y.pull(0);
        y.ticks(1);
        Check.due("not taken any more: lies(1, 0)", y.lies(1, 0), 1);
    }

    private static void byTheirNumbers() {
        LongCaterpillars x = Check.house("Lh02051h01051t02");
        Check.due("the lower one goes away first: lies(1, 0)", x.lies(1, 0), 2);
        Check.due("the lower one goes away first: about(9)", x.about(9), 0);
        LongCaterpillars y = Check.house("Lh01051h02051t02");
        Check.due("the higher one goes away behind it: lies(0, 0)", y.lies(0, 0), 1);
        Check.due("the higher one goes away behind it: about(9)", y.about(9), 1);
        // both want the same room: the lower one has it
        LongCaterpillars z = Check.house("Lh00021h02001t02");
        Check.due("two for one room: room(1, 0)", z.room(1, 0), 0);
        Check.due("two for one room: caterpillar(1, 4)", z.caterpillar(1, 4), 1);
        // ten of them behind one another go as one
        LongCaterpillars w = Check.house("Lh05351h04351h03351h02351h01351h00351t01");
        w.ticks(1);
        Check.due("a row that goes as one: about(9)", w.about(9), 0);
        Check.due("a row that goes as one: lies(5, 0)", w.lies(5, 0), 1);
    }

    private static void oneThingEach() {
        // out of the crack, a step, to the leaf, eaten: one each tick, though the next thing could be done at once
        LongCaterpillars x = Check.house("Lh00011");
        x.ticks(1);
        Check.due("tick 1: lies(0, 0)", x.lies(0, 0), 0);
        x.ticks(1);
        Check.due("tick 2: lies(0, 0)", x.lies(0, 0), 1);
        Check.due("tick 2: caterpillar(0, 3)", x.caterpillar(0, 3), 0);
        x.ticks(1);
        Check.due("tick 3: caterpillar(0, 3)", x.caterpillar(0, 3), 1);
        // a crack that a lower one leaves free is free for the higher one in the same tick
        LongCaterpillars y = Check.house("Lh02051h02011t02");
        Check.due("left in this tick: room(2, 0)", y.room(2, 0), 1);
        Check.due("left in this tick: caterpillar(1, 4)", y.caterpillar(1, 4), 1);
    }

    private static void outOfTheCrack() {
        LongCaterpillars x = Check.house("Lx00h00051h30309h30351t01");
        Check.due("shut: caterpillar(0, 0)", x.caterpillar(0, 0), 0);
        Check.due("shut: caterpillar(0, 4)", x.caterpillar(0, 4), 1);
        Check.due("free: caterpillar(1, 0)", x.caterpillar(1, 0), 1);
        Check.due("free: caterpillar(1, 2)", x.caterpillar(1, 2), 8);
        Check.due("free: lies(1, 0)", x.lies(1, 0), 30);
        Check.due("taken: caterpillar(2, 0)", x.caterpillar(2, 0), 0);
        Check.due("taken: caterpillar(2, 4)", x.caterpillar(2, 4), 1);
        Check.due("taken: caterpillar(2, 2)", x.caterpillar(2, 2), 1);
    }

    /** Where it is, the rooms in which it lies, the parts in the crack, those that have eaten. */
    private static void parts(String when, LongCaterpillars x, int i, int... due) {
        for (int what = 0; what < due.length; what++) {
            Check.due(when + ": caterpillar(" + i + ", " + what + ")", x.caterpillar(i, what), due[what]);
        }
    }

    private static void eats() {
        LongCaterpillars x = Check.house("Lh00013t02");
        parts("at the leaf", x, 0, 1, 2, 1, 0);
        x.ticks(1);
        parts("the last one comes out of the crack", x, 0, 1, 2, 0, 1);
        Check.due("it lies in the same rooms: lies(0, 1)", x.lies(0, 1), 0);
        x.ticks(1);
        parts("it leaves the last room", x, 0, 1, 1, 0, 2);
        Check.due("it leaves the last room: lies(0, 0)", x.lies(0, 0), 1);
        Check.due("it leaves the last room: room(0, 0)", x.room(0, 0), NONE);
        // with all about it shut or taken it eats on
        LongCaterpillars y = Check.house("Lh14142h20209t01x13x15x08");
        Check.due("all about it is shut: ticks(2)", y.ticks(2), 1);
        Check.due("all about it is shut: caterpillar(0, 4)", y.caterpillar(0, 4), 0);
    }

    private static void goneWithTheLastPart() {
        LongCaterpillars x = Check.house("Lh00019t10");
        parts("one part is left", x, 0, 1, 1, 0, 8);
        Check.due("one part is left: ticks(1)", x.ticks(1), 1);
        parts("no part is left", x, 0, 2, 0, 0, 9, 0, 11);
        Check.due("no part is left: about(6)", x.about(6), 0);
        LongCaterpillars y = Check.house("Lh00001t01");
        parts("the only part is left", y, 0, 1, 1, 0, 0);
        Check.due("the only part is left: ticks(1)", y.ticks(1), 1);
        parts("the only part has eaten", y, 0, 2, 0, 0, 1, 0, 2);
        // while parts are in the crack, it is not gone, though it lies in one room alone
        LongCaterpillars z = Check.house("Lh00003t03");
        parts("the last one has just come out", z, 0, 1, 1, 0, 2);
    }

    private static void goes() {
        LongCaterpillars x = Check.house("Lh00052t01");
        parts("its head is out", x, 0, 1, 1, 1);
        x.ticks(1);
        parts("the last part comes out", x, 0, 1, 2, 0);
        Check.due("the last part comes out: lies(0, 1)", x.lies(0, 1), 0);
        x.ticks(1);
        parts("it leaves the last room", x, 0, 1, 2, 0);
        Check.due("it leaves the last room: lies(0, 1)", x.lies(0, 1), 1);
        Check.due("it leaves the last room: room(0, 0)", x.room(0, 0), NONE);
        LongCaterpillars y = Check.house("Lh00051t02");
        parts("one part alone", y, 0, 1, 1, 0);
        Check.due("one part alone: lies(0, 0)", y.lies(0, 0), 1);
        Check.due("one part alone: room(0, 0)", y.room(0, 0), NONE);
    }

    private static void waits() {
        LongCaterpillars x = Check.house("Lh00053x02t03");
        parts("a shut room", x, 0, 1, 2, 1, 0, 1);
        Check.due("a shut room: lies(0, 0)", x.lies(0, 0), 1);
        Check.due("a shut room: lies(0, 1)", x.lies(0, 1), 0);
        // no part comes out of the crack by that
        parts("a long one", Check.house("Lh00059x02t05"), 0, 1, 2, 7, 0, 3);
        LongCaterpillars y = Check.house("Lh02029h00052t04");
        parts("a taken room", y, 1, 1, 2, 0, 0, 2);
        Check.due("a taken room: lies(1, 1)", y.lies(1, 1), 0);
        // the leaf's room may be the one that is not free
        LongCaterpillars z = Check.house("Lh00011x01t05");
        parts("the leaf's room is shut", z, 0, 1, 1, 0, 0, 4);
    }

    private static void next(String text, int due) {
        Check.due("next(0) of " + text, Check.house(text).next(0), due);
    }

    private static void ruleZero() {
        next("Lr0h14281t01", 15);
        next("Lr0h14001t01", 13);
        next("Lr0h14261t01", 20);
        next("Lr0h14021t01", 8);
        next("Lr0h14161t01", 15);
        next("Lr0h14121t01", 13);
        next("Lr0h14281t01x15", 15);
        heads("Lr0h14281", 14, 15, 16, 22, 28);
        heads("Lr0h14001", 14, 13, 12, 6, 0);
    }

    private static void ruleOne() {
        next("Lr1h14281t01", 20);
        next("Lr1h14001t01", 8);
        next("Lr1h14161t01", 15);
        next("Lr1h14121t01", 13);
        next("Lr1h14261t01", 20);
        next("Lr1h14021t01", 8);
        next("Lr1h14281t01x20", 20);
        heads("Lr1h14281", 14, 20, 26, 27, 28);
        heads("Lr1h14001", 14, 8, 2, 1, 0);
    }

    private static void ruleTwoAlongTheRow() {
        next("Lr2h14281t01", 15);
        next("Lr2h14281t01x20", 15);
        next("Lr2h14281h20209t01", 15);
        next("Lr2h14161t01", 15);
        next("Lr2h14001t01", 13);
        heads("Lr2h14281", 14, 15, 16, 22, 28);
    }

    private static void ruleTwoAlongTheColumn() {
        next("Lr2h14281t01x15", 20);
        next("Lr2h14281h15159t01", 20);
        next("Lr2h14001t01x13", 8);
        next("Lr2h14261t01", 20);
        next("Lr2h14021t01", 8);
        heads("Lr2x15h14281", 14, 20, 21, 22, 28);
    }

    private static void ruleTwoIfNeitherCanBe() {
        next("Lr2h14281t01x15x20", 15);
        next("Lr2h14281h15159h20209t01", 15);
        next("Lr2h14281h20209t01x15", 15);
        next("Lr2h14281h15159t01x20", 15);
        // the row is that of the leaf: the column is no way, though it is free
        next("Lr2h14161t01x15", 15);
        next("Lr2h14161h15159t01", 15);
        // the column is that of the leaf: the row is no way
        next("Lr2h14261t01x20", 20);
        next("Lr2h14261h20209t01", 20);
    }

    private static void eachStepIsNearer() {
        for (int rule = 0; rule < 3; rule++) {
            for (int crack = 0; crack < 36; crack++) {
                LongCaterpillars x = new LongCaterpillars();
                x.rule(rule);
                for (int leaf = 0; leaf < 36; leaf++) {
                    int steps = Math.abs(crack % 6 - leaf % 6) + Math.abs(crack / 6 - leaf / 6);
                    String call = "rule " + rule + ": ifHatched(" + crack + ", " + leaf + ", ";
                    Check.due(call + "1)", x.ifHatched(crack, leaf, 1), 1 + steps + 1);
                    Check.due(call + "9)", x.ifHatched(crack, leaf, 9), 1 + steps + 9);
                }
            }
        }
        // though the rule is another one in each tick
        LongCaterpillars y = Check.house("Lh00359");
        for (int tick = 1; tick <= 20; tick++) {
            y.rule(tick % 3);
            Check.due("another rule in each tick: waitsFor(0)", y.waitsFor(0), NONE);
            Check.due("another rule in each tick: ticks(1), " + tick, y.ticks(1), tick == 20 ? 1 : 0);
        }
    }

    private static void asTheFirstInTheTick() {
        // 0 will go away before 1 does something, so 1 will not wait; but as the first it would
        LongCaterpillars x = Check.house("Lh01051h00051t01");
        Check.due("waitsFor(1)", x.waitsFor(1), 0);
        x.ticks(1);
        Check.due("about(9)", x.about(9), 0);
        // both see the room between them free; when the tick comes only one can go
        LongCaterpillars y = Check.house("Lh00021h02001t01");
        Check.due("two for one room: waitsFor(0)", y.waitsFor(0), NONE);
        Check.due("two for one room: waitsFor(1)", y.waitsFor(1), NONE);
        // the same for cracks: none is out as yet
        LongCaterpillars z = Check.house("Lh00021h00011");
        Check.due("two for one crack: waitsFor(1)", z.waitsFor(1), NONE);
    }

    private static void waitsFor(String text, int due) {
        Check.due("waitsFor(0) of " + text, Check.house(text).waitsFor(0), due);
    }

    private static void waitsForTheTaker() {
        waitsFor("Lh14281h15159t01", 1);
        waitsFor("Lh14281t01x15", NONE);
        waitsFor("Lh14281t01", NONE);
        waitsFor("Lx14h14281t01", NONE);
        waitsFor("Lr2h14281h15159t01", NONE);
        waitsFor("Lr2h14281h15159t01x20", 1);
        waitsFor("Lr2h14281h15159h20209t01", 1);
        // the next room is shut, as with the rule 0; that the other way is taken is nothing to it
        waitsFor("Lr2h14281h20209t01x15", NONE);
        LongCaterpillars x = Check.house("Lh14149h14281t01");
        Check.due("waitsFor(1), in its crack", x.waitsFor(1), 0);
        Check.due("waitsFor(0), eats", x.waitsFor(0), NONE);
    }

    private static void ring(String text, int lowest, int size) {
        LongCaterpillars x = Check.house(text);
        Check.due("ring(0) of " + text, x.ring(0), lowest);
        Check.due("ring(1) of " + text, x.ring(1), size);
    }

    private static void rings() {
        ring("Lh00032h03002t02", 0, 2);
        ring("Lh00022h02042h04112h11232h23352h35332h33312h31242h24122h12002t02", 0, 10);
        // a row of those that wait is none, nor is one that waits for a shut room
        ring("Lh03039h02051h01051h00051t01", NONE, NONE);
        ring("Lh00031t01x01", NONE, NONE);
        // those that wait for one in the ring are not in it: one out, one in its crack
        ring("Lh06001h00032h03002t02", 1, 2);
        ring("Lh30301h00032h03002h00001t02", 1, 2);
        // one of two becomes another: the last waits no more for the first
        ring("Lh00032h03002t02p1", NONE, NONE);
        ring("Lh00032h03002t02p0", NONE, NONE);
        // of two rings the one with the lowest, though it is the smaller one, or the larger one
        ring("Lh30332h33302h07093h09213h21193h19073t02", 0, 2);
        ring("Lh07093h09213h21193h19073h30332h33302t02", 0, 4);
    }
}
