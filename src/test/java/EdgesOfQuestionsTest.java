/** The sentences of promises 1 and 6 to 12 that name a boundary case, a test for each. */
public final class EdgesOfQuestionsTest {

    private static final int NONE = LongCaterpillars.NONE;
    private static final int[] FAR = {Integer.MIN_VALUE, Integer.MAX_VALUE};

    private EdgesOfQuestionsTest() {
    }

    public static void main(String[] args) {
        Check.sentence("1: Creates an empty house, with the rule 0", EdgesOfQuestionsTest::aNewObject);
        Check.sentence("6: IllegalArgumentException if what is not 0 to 9", EdgesOfQuestionsTest::aboutRefuses);
        Check.sentence("6: 0: the caterpillars so far", EdgesOfQuestionsTest::soFar);
        Check.sentence("6: 1: those in their cracks", EdgesOfQuestionsTest::inTheirCracks);
        Check.sentence("6: 2: those that are out", EdgesOfQuestionsTest::out);
        Check.sentence("6: 3: the gone ones", EdgesOfQuestionsTest::gone);
        Check.sentence("6: 4: the pulled ones", EdgesOfQuestionsTest::pulled);
        Check.sentence("6: 5: the ticks so far", EdgesOfQuestionsTest::ticksSoFar);
        Check.sentence("6: 6: the rooms that are taken", EdgesOfQuestionsTest::takenRooms);
        Check.sentence("6: 7: the rooms that are shut", EdgesOfQuestionsTest::shutRooms);
        Check.sentence("6: 8: the rule", EdgesOfQuestionsTest::theRule);
        Check.sentence("6: 9: how often any waited so far", EdgesOfQuestionsTest::waitsSoFar);
        Check.sentence("7: IndexOutOfBoundsException if there is no such caterpillar",
                EdgesOfQuestionsTest::noSuchCaterpillar);
        Check.sentence("7: IllegalArgumentException if what is not 0 to 8",
                EdgesOfQuestionsTest::noSuchNumberOfACaterpillar);
        Check.sentence("7: 1: the rooms in which it lies, how many", EdgesOfQuestionsTest::howManyRooms);
        Check.sentence("7: 2: the parts in its crack (all of them, if it is there; 0 if it is gone or pulled)",
                EdgesOfQuestionsTest::partsInTheCrack);
        Check.sentence("7: 3: the parts that have eaten", EdgesOfQuestionsTest::partsThatHaveEaten);
        Check.sentence("7: 4: how often it waited so far", EdgesOfQuestionsTest::itsWaits);
        Check.sentence("7: 5: the tick in which it was gone, counted from 1", EdgesOfQuestionsTest::tickOfGone);
        Check.sentence("7: 5: NONE if it is not", EdgesOfQuestionsTest::tickOfThoseThatAreNot);
        Check.sentence("7: 6 to 8: the room of its crack, that of its leaf, its length",
                EdgesOfQuestionsTest::asHatched);
        Check.sentence("8: k: place, from 0 for its head", EdgesOfQuestionsTest::placesFromTheHead);
        Check.sentence("8: IndexOutOfBoundsException if there is no such caterpillar",
                EdgesOfQuestionsTest::liesOfNoSuch);
        Check.sentence("8: or it does not lie in so many rooms", EdgesOfQuestionsTest::notSoManyRooms);
        Check.sentence("9: the caterpillar by which it is taken, NONE if there is none", EdgesOfQuestionsTest::taker);
        Check.sentence("9: 1 if it is shut, otherwise 0", EdgesOfQuestionsTest::isShut);
        Check.sentence("9: IndexOutOfBoundsException if there is no such room", EdgesOfQuestionsTest::noSuchRoom);
        Check.sentence("9: IllegalArgumentException if what is neither 0 nor 1",
                EdgesOfQuestionsTest::noSuchNumberOfARoom);
        Check.sentence("10: the next room, of one that is out, with its head not in the room of its leaf",
                EdgesOfQuestionsTest::nextOfOneThatIsOut);
        Check.sentence("10: the room of its crack, if it is there", EdgesOfQuestionsTest::nextOfOneInItsCrack);
        Check.sentence("10: NONE of others", EdgesOfQuestionsTest::nextOfOthers);
        Check.sentence("10: IndexOutOfBoundsException if there is no such caterpillar",
                EdgesOfQuestionsTest::nextOfNoSuch);
        Check.sentence("11: Returns the other one", EdgesOfQuestionsTest::waitsForTheOther);
        Check.sentence("11: NONE if it waits for none", EdgesOfQuestionsTest::waitsForNone);
        Check.sentence("11: IndexOutOfBoundsException if there is no such caterpillar",
                EdgesOfQuestionsTest::waitsForOfNoSuch);
        Check.sentence("12: 0: the lowest caterpillar that is in a ring", EdgesOfQuestionsTest::lowestInARing);
        Check.sentence("12: 1: how many are in its ring", EdgesOfQuestionsTest::manyInItsRing);
        Check.sentence("12: NONE if there is no ring", EdgesOfQuestionsTest::noRing);
        Check.sentence("12: IllegalArgumentException if what is neither 0 nor 1", EdgesOfQuestionsTest::ringRefuses);
        Check.end();
    }

    private static void aNewObject() {
        LongCaterpillars x = new LongCaterpillars();
        for (int what = 0; what <= 9; what++) {
            Check.due("about(" + what + ")", x.about(what), 0);
        }
        for (int k = 0; k < 36; k++) {
            Check.due("room(" + k + ", 0)", x.room(k, 0), NONE);
            Check.due("room(" + k + ", 1)", x.room(k, 1), 0);
        }
        for (int i = 0; i < 10; i++) {
            int none = i;
            Check.noSuch("caterpillar(" + i + ", 0)", () -> x.caterpillar(none, 0));
        }
        Check.due("throughIn()", x.throughIn(), 0);
        Check.due("errorPosition()", x.errorPosition(), 0);
        Check.due("clearText()", x.clearText(), 0);
        Check.dueThrow("undo()", IllegalStateException.class, x::undo);
        Check.dueThrow("restore(0)", IllegalStateException.class, () -> x.restore(0));
        Check.dueThrow("restore(1)", IllegalStateException.class, () -> x.restore(1));
    }

    private static void aboutRefuses() {
        LongCaterpillars x = Check.house("Lh00001");
        Check.due("about(0)", x.about(0), 1);
        Check.due("about(9)", x.about(9), 0);
        Check.refused("about(-1)", () -> x.about(-1));
        Check.refused("about(10)", () -> x.about(10));
        for (int what : FAR) {
            Check.refused("about(" + what + ")", () -> x.about(what));
        }
    }

    private static void about(String text, int what, int due) {
        Check.due("about(" + what + ") of " + text, Check.house(text).about(what), due);
    }

    private static final String TEN_APART = "Lh00001h01011h02021h03031h04041h05051h06061h07071h08081h09091";

    private static void soFar() {
        about("L", 0, 0);
        about(TEN_APART, 0, 10);
        about(TEN_APART + "t02", 0, 10);
        about(TEN_APART + "p0p1p2p3p4p5p6p7p8p9", 0, 10);
        about(TEN_APART + "h10101", 0, 10);
    }

    private static void inTheirCracks() {
        about(TEN_APART, 1, 10);
        about(TEN_APART + "t01", 1, 0);
        about("Lh00001p0", 1, 0);
        about("Lx00h00001t60", 1, 1);
    }

    private static void out() {
        about(TEN_APART, 2, 0);
        about(TEN_APART + "t01", 2, 10);
        about(TEN_APART + "t02", 2, 0);
        about("Lh00001t01p0", 2, 0);
        // at its leaf it is out still
        about("Lh00002t02", 2, 1);
    }

    private static void gone() {
        about(TEN_APART + "t01", 3, 0);
        about(TEN_APART + "t02", 3, 10);
        about("Lh00001t01p0t01", 3, 0);
    }

    private static void pulled() {
        about(TEN_APART, 4, 0);
        about(TEN_APART + "p0p1p2p3p4p5p6p7p8p9", 4, 10);
        about(TEN_APART + "t01p0p1p2p3p4p5p6p7p8p9", 4, 10);
        about(TEN_APART + "t02p0p1", 4, 0);
        about("Lh00001p0p0", 4, 1);
    }

    private static void ticksSoFar() {
        about("L", 5, 0);
        about("Lt01", 5, 1);
        about("Lt60t60t60t60", 5, 240);
        // they go by though none is there or all are gone
        about("Lh00001t02t09", 5, 11);
    }

    private static void takenRooms() {
        about(TEN_APART, 6, 0);
        about(TEN_APART + "t01", 6, 10);
        about(TEN_APART + "t02", 6, 0);
        // six that lie in a whole row each
        String sixRows = "Lh00056h06116h12176h18236h24296h30356t06";
        about(sixRows, 6, 36);
        about(sixRows + "p0", 6, 30);
        about("Lh00359t08", 6, 8);
        about("Lh00359t09", 6, 9);
        about("Lh00359t10", 6, 9);
        // a shut room is not taken by that
        about("Lx00x01", 6, 0);
    }

    private static void shutRooms() {
        LongCaterpillars x = new LongCaterpillars();
        for (int k = 0; k < 36; k++) {
            x.shut(k, true);
            Check.due("about(7), shut up to " + k, x.about(7), k + 1);
        }
        for (int k = 0; k < 36; k++) {
            x.shut(k, false);
            Check.due("about(7), opened up to " + k, x.about(7), 35 - k);
        }
        about("Lx00x00", 7, 1);
        about("Lh00001t01", 7, 0);
    }

    private static void theRule() {
        about("L", 8, 0);
        about("Lr1", 8, 1);
        about("Lr2", 8, 2);
        about("Lr2r0", 8, 0);
        about("Lr2r1t60h00001", 8, 1);
    }

    private static void waitsSoFar() {
        about("Lh00001t60", 9, 0);
        about("Lx00h00001t60t60", 9, 120);
        // two that wait in one tick are counted twice
        about("Lx00h00001h00001t01", 9, 2);
        // one in its crack, one under way; the one that eats does not wait
        about("Lh01019h00051h01011t03", 9, 5);
        // those of one that is pulled, or gone, later stay counted
        about("Lx00h00001t05p0t05", 9, 5);
        about("Lh00001h00001t09", 9, 1);
    }

    private static void noSuchCaterpillar() {
        LongCaterpillars x = Check.house("Lh00001h00001");
        Check.due("caterpillar(1, 0)", x.caterpillar(1, 0), 0);
        Check.noSuch("caterpillar(2, 0)", () -> x.caterpillar(2, 0));
        Check.noSuch("caterpillar(-1, 0)", () -> x.caterpillar(-1, 0));
        Check.noSuch("caterpillar(10, 0)", () -> x.caterpillar(10, 0));
        for (int i : FAR) {
            Check.noSuch("caterpillar(" + i + ", 0)", () -> x.caterpillar(i, 0));
        }
        LongCaterpillars full = Check.house(TEN_APART);
        Check.due("caterpillar(9, 6), full", full.caterpillar(9, 6), 9);
        Check.noSuch("caterpillar(10, 6), full", () -> full.caterpillar(10, 6));
        // one that was taken back is none
        LongCaterpillars y = new LongCaterpillars();
        y.hatch(0, 0, 1);
        y.undo();
        Check.noSuch("caterpillar(0, 0), undone", () -> y.caterpillar(0, 0));
    }

    private static void noSuchNumberOfACaterpillar() {
        LongCaterpillars x = Check.house("Lh07095");
        Check.due("caterpillar(0, 0)", x.caterpillar(0, 0), 0);
        Check.due("caterpillar(0, 8)", x.caterpillar(0, 8), 5);
        Check.refused("caterpillar(0, -1)", () -> x.caterpillar(0, -1));
        Check.refused("caterpillar(0, 9)", () -> x.caterpillar(0, 9));
        for (int what : FAR) {
            Check.refused("caterpillar(0, " + what + ")", () -> x.caterpillar(0, what));
        }
    }

    private static void number(String text, int what, int due) {
        Check.due("caterpillar(0, " + what + ") of " + text, Check.house(text).caterpillar(0, what), due);
    }

    private static void howManyRooms() {
        number("Lh00359", 1, 0);
        number("Lh00359t01", 1, 1);
        number("Lh00359t09", 1, 9);
        number("Lh00359t19", 1, 1);
        number("Lh00359t20", 1, 0);
        number("Lh00359t09p0", 1, 0);
        number("Lh00009t09", 1, 1);
    }

    private static void partsInTheCrack() {
        number("Lh00009", 2, 9);
        number("Lx00h00009t05", 2, 9);
        number("Lh00359t01", 2, 8);
        number("Lh00359t08", 2, 1);
        number("Lh00359t09", 2, 0);
        number("Lh00009t09", 2, 0);
        number("Lh00009t10", 2, 0);
        number("Lh00009p0", 2, 0);
        number("Lh00009t05p0", 2, 0);
        number("Lh00001", 2, 1);
        number("Lh00001t01", 2, 0);
    }

    private static void partsThatHaveEaten() {
        number("Lh00009", 3, 0);
        number("Lh00009t01", 3, 0);
        number("Lh00009t02", 3, 1);
        number("Lh00009t10", 3, 9);
        number("Lh00009t60", 3, 9);
        number("Lh00009t05p0", 3, 4);
        number("Lh00001t02", 3, 1);
    }

    private static void itsWaits() {
        number("Lh00001", 4, 0);
        number("Lh00001t60", 4, 0);
        number("Lx00h00001t60t60", 4, 120);
        number("Lx01h00051t60", 4, 59);
        number("Lx00h00001t05p0t05", 4, 5);
        // the waits of another one are not its own
        number("Lh00009h00001t10", 4, 0);
    }

    private static void tickOfGone() {
        number("Lh00001t02", 5, 2);
        number("Lh00001t60", 5, 2);
        number("Lh00359t20", 5, 20);
        number("Lt60t60t60t60h00001t60", 5, 242);
    }

    private static void tickOfThoseThatAreNot() {
        number("Lh00001", 5, NONE);
        number("Lh00001t01", 5, NONE);
        number("Lh00359t19", 5, NONE);
        number("Lh00001p0", 5, NONE);
        number("Lh00002t02p0t09", 5, NONE);
        number("Lx00h00001t60", 5, NONE);
    }

    private static void asHatched() {
        String[] whens = {"", "t01", "t05", "t60", "p0"};
        for (String when : whens) {
            number("Lh00359" + when, 6, 0);
            number("Lh00359" + when, 7, 35);
            number("Lh00359" + when, 8, 9);
            number("Lh35001" + when, 6, 35);
            number("Lh35001" + when, 7, 0);
            number("Lh35001" + when, 8, 1);
        }
    }

    private static void placesFromTheHead() {
        LongCaterpillars x = Check.house("Lh00359t09");
        int[] due = {23, 17, 11, 5, 4, 3, 2, 1, 0};
        for (int k = 0; k < 9; k++) {
            Check.due("lies(0, " + k + ")", x.lies(0, k), due[k]);
        }
        Check.due("lies(0, 0), one room alone", Check.house("Lh35001t01").lies(0, 0), 35);
    }

    private static void liesOfNoSuch() {
        LongCaterpillars x = Check.house("Lh00059t03");
        Check.noSuch("lies(-1, 0)", () -> x.lies(-1, 0));
        Check.noSuch("lies(1, 0)", () -> x.lies(1, 0));
        Check.noSuch("lies(10, 0)", () -> x.lies(10, 0));
        for (int i : FAR) {
            Check.noSuch("lies(" + i + ", 0)", () -> x.lies(i, 0));
        }
    }

    private static void notSoMany(String text, int rooms) {
        LongCaterpillars x = Check.house(text);
        if (rooms > 0) {
            Check.due("room of lies(0, " + (rooms - 1) + ") of " + text, x.room(x.lies(0, rooms - 1), 0), 0);
        }
        Check.noSuch("lies(0, " + rooms + ") of " + text, () -> x.lies(0, rooms));
        Check.noSuch("lies(0, 9) of " + text, () -> x.lies(0, 9));
        Check.noSuch("lies(0, -1) of " + text, () -> x.lies(0, -1));
        for (int k : FAR) {
            Check.noSuch("lies(0, " + k + ") of " + text, () -> x.lies(0, k));
        }
    }

    private static void notSoManyRooms() {
        notSoMany("Lh00359", 0);
        notSoMany("Lh00359t01", 1);
        notSoMany("Lh00359t08", 8);
        notSoMany("Lh00359t09", 9);
        notSoMany("Lh00359t12", 8);
        notSoMany("Lh00359t19", 1);
        notSoMany("Lh00359t20", 0);
        notSoMany("Lh00359t09p0", 0);
        // no other one lies behind it in the count
        notSoMany("Lh00059h06119t03", 3);
    }

    private static void room(String text, int k, int what, int due) {
        Check.due("room(" + k + ", " + what + ") of " + text, Check.house(text).room(k, what), due);
    }

    private static void taker() {
        room("L", 0, 0, NONE);
        room("Lh00051", 0, 0, NONE);
        room("Lh00051t01", 0, 0, 0);
        room("Lh00051t02", 0, 0, NONE);
        room("Lh00051t02", 1, 0, 0);
        room("Lh00052t02", 0, 0, 0);
        room("Lh00001t02", 0, 0, NONE);
        room("Lh00009t05p0", 0, 0, NONE);
        room("Lx35", 35, 0, NONE);
        room("Lh35359t01", 35, 0, 0);
        room(TEN_APART + "t01", 9, 0, 9);
        room("Lh00002h00002t02", 0, 0, 0);
        room("Lh00002h00002t03", 0, 0, 1);
    }

    private static void isShut() {
        room("L", 0, 1, 0);
        room("Lx00", 0, 1, 1);
        room("Lx00", 1, 1, 0);
        room("Lx35x35", 35, 1, 1);
        room("Lh00001t01", 0, 1, 0);
        LongCaterpillars x = Check.house("Lx35");
        x.shut(35, false);
        Check.due("room(35, 1), opened", x.room(35, 1), 0);
    }

    private static void noSuchRoom() {
        LongCaterpillars x = Check.house("Lx00x35");
        Check.due("room(0, 1)", x.room(0, 1), 1);
        Check.due("room(35, 1)", x.room(35, 1), 1);
        for (int what = 0; what <= 1; what++) {
            int asked = what;
            Check.noSuch("room(-1, " + what + ")", () -> x.room(-1, asked));
            Check.noSuch("room(36, " + what + ")", () -> x.room(36, asked));
            for (int k : FAR) {
                Check.noSuch("room(" + k + ", " + what + ")", () -> x.room(k, asked));
            }
        }
    }

    private static void noSuchNumberOfARoom() {
        LongCaterpillars x = new LongCaterpillars();
        Check.refused("room(0, -1)", () -> x.room(0, -1));
        Check.refused("room(0, 2)", () -> x.room(0, 2));
        Check.refused("room(35, 2)", () -> x.room(35, 2));
        for (int what : FAR) {
            Check.refused("room(0, " + what + ")", () -> x.room(0, what));
        }
    }

    private static void next(String text, int due) {
        Check.due("next(0) of " + text, Check.house(text).next(0), due);
    }

    private static void nextOfOneThatIsOut() {
        next("Lh00351t01", 1);
        next("Lh00351t10", 35);
        // not free, and the next one none the less
        next("Lh00351t01x01", 1);
        next("Lh00351h01019t01", 1);
    }

    private static void nextOfOneInItsCrack() {
        next("Lh00351", 0);
        next("Lh35001", 35);
        next("Lh14141", 14);
        next("Lx00h00351t05", 0);
        LongCaterpillars x = Check.house("Lh14149h14001t01");
        Check.due("next(1), its crack is in a taken room", x.next(1), 14);
    }

    private static void nextOfOthers() {
        next("Lh00351t11", NONE);
        next("Lh00009t01", NONE);
        next("Lh00009t09", NONE);
        next("Lh00009t10", NONE);
        next("Lh00359p0", NONE);
        next("Lh00359t05p0", NONE);
    }

    private static void nextOfNoSuch() {
        LongCaterpillars x = Check.house("Lh00351");
        Check.noSuch("next(-1)", () -> x.next(-1));
        Check.noSuch("next(1)", () -> x.next(1));
        Check.noSuch("next(10)", () -> x.next(10));
        Check.noSuch("next(0), empty", () -> new LongCaterpillars().next(0));
        for (int i : FAR) {
            Check.noSuch("next(" + i + ")", () -> x.next(i));
        }
    }

    private static void waitsFor(String text, int i, int due) {
        Check.due("waitsFor(" + i + ") of " + text, Check.house(text).waitsFor(i), due);
    }

    private static void waitsForTheOther() {
        waitsFor("Lh00009h00009t01", 1, 0);
        waitsFor("Lh00051h01059t01", 0, 1);
        // the last room of the other one is taken as well
        waitsFor("Lh01053h00051t03", 1, 0);
        waitsFor("Lh01053h00051t04", 1, 0);
        // the highest, for the lowest
        waitsFor("Lh00009" + "h00009".repeat(9) + "t01", 9, 0);
    }

    private static void waitsForNone() {
        waitsFor("Lh00351", 0, NONE);
        waitsFor("Lh00351t01", 0, NONE);
        waitsFor("Lh00351t01x01", 0, NONE);
        waitsFor("Lx00h00351t01", 0, NONE);
        waitsFor("Lh00009h00009t01", 0, NONE);
        waitsFor("Lh00001h00009t02", 0, NONE);
        waitsFor("Lh00009h00009t01p1", 1, NONE);
        waitsFor("Lh00009h00009t01p0", 1, NONE);
    }

    private static void waitsForOfNoSuch() {
        LongCaterpillars x = Check.house("Lh00351");
        Check.noSuch("waitsFor(-1)", () -> x.waitsFor(-1));
        Check.noSuch("waitsFor(1)", () -> x.waitsFor(1));
        Check.noSuch("waitsFor(10)", () -> x.waitsFor(10));
        Check.noSuch("waitsFor(0), empty", () -> new LongCaterpillars().waitsFor(0));
        for (int i : FAR) {
            Check.noSuch("waitsFor(" + i + ")", () -> x.waitsFor(i));
        }
    }

    private static void ring(String text, int what, int due) {
        Check.due("ring(" + what + ") of " + text, Check.house(text).ring(what), due);
    }

    private static void lowestInARing() {
        ring("Lh00032h03002t02", 0, 0);
        ring("Lh06001h00032h03002t02", 0, 1);
        // the lowest that can be, and the two highest
        ring("Lh00032h03002t02" + "h35351".repeat(8), 0, 0);
        ring("L" + "h00001".repeat(8) + "h06092h09062t02", 0, 8);
    }

    private static void manyInItsRing() {
        ring("Lh00032h03002t02", 1, 2);
        ring("Lh07093h09213h21193h19073t02", 1, 4);
        ring("Lh00022h02042h04112h11232h23352h35332h33312h31242h24122h12002t02", 1, 10);
        // those that wait for one in it are not counted
        ring("Lh06001h00032h03002h00001t02", 1, 2);
    }

    private static void noRing() {
        for (int what = 0; what <= 1; what++) {
            ring("L", what, NONE);
            ring("Lh00351", what, NONE);
            ring("Lh00351t01x01", what, NONE);
            ring("Lh00009h00009t01", what, NONE);
            ring("Lh00032h03002t01", what, NONE);
            ring("Lh00032h03002t02p1", what, NONE);
            ring("Lh00032h03002t02r1", what, 2 * what);
            // by the one rule both can go on, by the other neither
            ring("Lh00082h08002t02", what, NONE);
            ring("Lh00082h08002t02r1", what, 2 * what);
        }
    }

    private static void ringRefuses() {
        LongCaterpillars x = Check.house("Lh00032h03002t02");
        Check.refused("ring(-1)", () -> x.ring(-1));
        Check.refused("ring(2)", () -> x.ring(2));
        for (int what : FAR) {
            Check.refused("ring(" + what + ")", () -> x.ring(what));
        }
        Check.refused("ring(2), no ring", () -> new LongCaterpillars().ring(2));
    }
}
