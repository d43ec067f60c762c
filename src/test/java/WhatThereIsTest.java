/** Promises 6 to 12, and the ticks of the terms that they show. */
public final class WhatThereIsTest {

    private static final int NONE = LongCaterpillars.NONE;

    private WhatThereIsTest() {
    }

    public static void main(String[] args) {
        aboutCounts();
        aboutRefuses();
        caterpillarGoesItsWay();
        leafNearTheCrack();
        leafInTheCrack();
        onePart();
        caterpillarRefuses();
        liesTells();
        roomTells();
        nextByTheRules();
        nextByRuleTwo();
        nextOfOthers();
        waitsForTells();
        waitsInTheCrack();
        ringOfTwo();
        ringOfFour();
        ringOfTen();
        noRing();
        Check.end();
    }

    private static void numbers(String when, LongCaterpillars x, int i, int... due) {
        for (int what = 0; what < due.length; what++) {
            Check.due(when + ": caterpillar(" + i + ", " + what + ")", x.caterpillar(i, what), due[what]);
        }
    }

    private static void lie(String when, LongCaterpillars x, int i, int... due) {
        Check.due(when + ": rooms of " + i, x.caterpillar(i, 1), due.length);
        for (int k = 0; k < due.length; k++) {
            Check.due(when + ": lies(" + i + ", " + k + ")", x.lies(i, k), due[k]);
            Check.due(when + ": room(" + due[k] + ", 0)", x.room(due[k], 0), i);
        }
        Check.dueThrow(when + ": lies(" + i + ", " + due.length + ")", IndexOutOfBoundsException.class,
                () -> x.lies(i, due.length));
    }

    private static void about(String when, LongCaterpillars x, int... due) {
        for (int what = 0; what < due.length; what++) {
            Check.due(when + ": about(" + what + ")", x.about(what), due[what]);
        }
    }

    private static void aboutCounts() {
        LongCaterpillars x = new LongCaterpillars();
        x.rule(1);
        x.hatch(0, 2, 2);     // gone in the tick 5
        x.hatch(12, 17, 3);   // out
        x.hatch(12, 0, 1);    // waits for 1 in its crack
        x.hatch(35, 0, 4);    // pulled out of its crack
        x.hatch(30, 0, 4);    // waits for ever: its crack is in a shut room
        x.shut(30, true);
        x.shut(31, true);
        x.pull(3);
        about("before the ticks", x, 5, 4, 0, 0, 1, 0, 0, 2, 1, 0);
        x.ticks(2);
        about("behind 2 ticks", x, 5, 2, 2, 0, 1, 2, 4, 2, 1, 4);
        x.ticks(3);
        about("behind 5 ticks", x, 5, 1, 2, 1, 1, 5, 4, 2, 1, 8);
    }

    private static void aboutRefuses() {
        LongCaterpillars x = new LongCaterpillars();
        for (int what : new int[] {-1, 10, Integer.MIN_VALUE, Integer.MAX_VALUE}) {
            Check.dueThrow("about(" + what + ")", IllegalArgumentException.class, () -> x.about(what));
        }
    }

    private static void caterpillarGoesItsWay() {
        LongCaterpillars x = new LongCaterpillars();
        x.hatch(0, 3, 3);
        numbers("hatched", x, 0, 0, 0, 3, 0, 0, NONE, 0, 3, 3);
        lie("hatched", x, 0);
        x.ticks(1);
        numbers("tick 1", x, 0, 1, 1, 2, 0, 0, NONE, 0, 3, 3);
        lie("tick 1", x, 0, 0);
        x.ticks(1);
        numbers("tick 2", x, 0, 1, 2, 1, 0, 0, NONE);
        lie("tick 2", x, 0, 1, 0);
        x.ticks(1);
        numbers("tick 3", x, 0, 1, 3, 0, 0, 0, NONE);
        lie("tick 3", x, 0, 2, 1, 0);
        x.ticks(1);
        numbers("tick 4", x, 0, 1, 3, 0, 0, 0, NONE);
        lie("tick 4", x, 0, 3, 2, 1);
        Check.due("room(0, 0) is left", x.room(0, 0), NONE);
        x.ticks(1);
        numbers("tick 5", x, 0, 1, 2, 0, 1, 0, NONE);
        lie("tick 5", x, 0, 3, 2);
        x.ticks(1);
        numbers("tick 6", x, 0, 1, 1, 0, 2, 0, NONE);
        lie("tick 6", x, 0, 3);
        x.ticks(1);
        numbers("tick 7", x, 0, 2, 0, 0, 3, 0, 7, 0, 3, 3);
        lie("tick 7", x, 0);
        Check.due("room(3, 0) is left", x.room(3, 0), NONE);
        x.ticks(5);
        numbers("tick 12", x, 0, 2, 0, 0, 3, 0, 7, 0, 3, 3);
    }

    private static void leafNearTheCrack() {
        LongCaterpillars x = new LongCaterpillars();
        x.hatch(0, 1, 5);
        x.ticks(2);
        numbers("near, tick 2", x, 0, 1, 2, 3, 0);
        x.ticks(1);
        numbers("near, tick 3", x, 0, 1, 2, 2, 1);
        lie("near, tick 3", x, 0, 1, 0);
        x.ticks(2);
        numbers("near, tick 5", x, 0, 1, 2, 0, 3);
        x.ticks(1);
        numbers("near, tick 6", x, 0, 1, 1, 0, 4);
        lie("near, tick 6", x, 0, 1);
        x.ticks(1);
        numbers("near, tick 7", x, 0, 2, 0, 0, 5, 0, 7);
    }

    private static void leafInTheCrack() {
        LongCaterpillars x = new LongCaterpillars();
        x.hatch(14, 14, 2);
        x.ticks(1);
        numbers("own, tick 1", x, 0, 1, 1, 1, 0);
        Check.due("own, tick 1: next(0)", x.next(0), NONE);
        x.ticks(1);
        numbers("own, tick 2", x, 0, 1, 1, 0, 1);
        lie("own, tick 2", x, 0, 14);
        x.ticks(1);
        numbers("own, tick 3", x, 0, 2, 0, 0, 2, 0, 3);
    }

    private static void onePart() {
        LongCaterpillars x = new LongCaterpillars();
        x.hatch(35, 34, 1);
        x.ticks(1);
        lie("one part, tick 1", x, 0, 35);
        x.ticks(1);
        lie("one part, tick 2", x, 0, 34);
        Check.due("one part: room(35, 0)", x.room(35, 0), NONE);
        x.ticks(1);
        numbers("one part, tick 3", x, 0, 2, 0, 0, 1, 0, 3, 35, 34, 1);
    }

    private static void caterpillarRefuses() {
        LongCaterpillars x = new LongCaterpillars();
        x.hatch(0, 3, 3);
        Check.dueThrow("caterpillar(1, 0)", IndexOutOfBoundsException.class, () -> x.caterpillar(1, 0));
        Check.dueThrow("caterpillar(-1, 0)", IndexOutOfBoundsException.class, () -> x.caterpillar(-1, 0));
        Check.dueThrow("caterpillar(0, 9)", IllegalArgumentException.class, () -> x.caterpillar(0, 9));
        Check.dueThrow("caterpillar(0, -1)", IllegalArgumentException.class, () -> x.caterpillar(0, -1));
        Check.dueThrow("caterpillar(1, 9)", IndexOutOfBoundsException.class, () -> x.caterpillar(1, 9));
    }

    private static void liesTells() {
        LongCaterpillars x = Check.house("Lh00359t11");
        int[] due = {29, 23, 17, 11, 5, 4, 3, 2, 1};
        lie("nine rooms", x, 0, new int[] {35, 29, 23, 17, 11, 5, 4, 3, 2});
        LongCaterpillars y = Check.house("Lh00359t10");
        lie("nine rooms, a tick before", y, 0, due);
        Check.dueThrow("lies(0, -1)", IndexOutOfBoundsException.class, () -> y.lies(0, -1));
        Check.dueThrow("lies(0, 9)", IndexOutOfBoundsException.class, () -> y.lies(0, 9));
        Check.dueThrow("lies(1, 0)", IndexOutOfBoundsException.class, () -> y.lies(1, 0));
        Check.dueThrow("lies(-1, 0)", IndexOutOfBoundsException.class, () -> y.lies(-1, 0));
    }

    private static void roomTells() {
        LongCaterpillars x = Check.house("Lh07081t01h20202t01x35x00");
        Check.due("room(7, 0)", x.room(7, 0), NONE);
        Check.due("room(8, 0)", x.room(8, 0), 0);
        Check.due("room(20, 0)", x.room(20, 0), 1);
        Check.due("room(20, 1)", x.room(20, 1), 0);
        Check.due("room(35, 0)", x.room(35, 0), NONE);
        Check.due("room(35, 1)", x.room(35, 1), 1);
        Check.due("room(0, 1)", x.room(0, 1), 1);
        Check.dueThrow("room(36, 0)", IndexOutOfBoundsException.class, () -> x.room(36, 0));
        Check.dueThrow("room(-1, 1)", IndexOutOfBoundsException.class, () -> x.room(-1, 1));
        Check.dueThrow("room(0, 2)", IllegalArgumentException.class, () -> x.room(0, 2));
        Check.dueThrow("room(0, -1)", IllegalArgumentException.class, () -> x.room(0, -1));
        Check.dueThrow("room(36, 2)", IndexOutOfBoundsException.class, () -> x.room(36, 2));
    }

    private static void nextIs(String text, int due) {
        Check.due("next(0) of " + text, Check.house(text).next(0), due);
    }

    private static void nextByTheRules() {
        nextIs("Lh14141", 14);
        nextIs("Lh14281t01", 15);
        nextIs("Lh14281t01r1", 20);
        nextIs("Lh14001t01", 13);
        nextIs("Lh14001t01r1", 8);
        nextIs("Lh14121t01r1", 13);
        nextIs("Lh14161t01r1", 15);
        nextIs("Lh14021t01", 8);
        nextIs("Lh14321t01", 20);
        nextIs("Lh05301t01", 4);
        nextIs("Lh05301t01r1", 11);
        nextIs("Lh05061t01r1", 11);
        // a room that is shut is the next one nevertheless
        nextIs("Lh14281t01x15", 15);
        nextIs("Lh14281t01x20r1", 20);
        nextIs("Lx14h14281", 14);
    }

    private static void nextByRuleTwo() {
        nextIs("Lr2h14281t01", 15);
        nextIs("Lr2h14281t01x15", 20);
        nextIs("Lr2h14281t01x20", 15);
        nextIs("Lr2h14281t01x15x20", 15);
        nextIs("Lr2h14161t01x15", 15);
        nextIs("Lr2h14321t01", 20);
        nextIs("Lr2h14321t01x20", 20);
        // taken as well as shut
        nextIs("Lr2h14281h15151t01", 20);
        nextIs("Lr2h14281h15159h20209t01", 15);
    }

    private static void nextOfOthers() {
        LongCaterpillars x = Check.house("Lh00011h07071h35301t02p2");
        Check.due("next(0), at its leaf", x.next(0), NONE);
        Check.due("next(1), gone", x.next(1), NONE);
        Check.due("next(2), pulled", x.next(2), NONE);
        Check.dueThrow("next(3)", IndexOutOfBoundsException.class, () -> x.next(3));
        Check.dueThrow("next(-1)", IndexOutOfBoundsException.class, () -> x.next(-1));
    }

    private static void waitsForTells() {
        // 0 goes east, 1 eats in its way, 2 comes behind 0
        LongCaterpillars x = Check.house("Lh00051h02029h06001t01");
        Check.due("waitsFor(0), its next room is free", x.waitsFor(0), NONE);
        Check.due("waitsFor(2), 0 has not left as yet", x.waitsFor(2), 0);
        x.ticks(1);
        Check.due("about(9), none had to wait", x.about(9), 0);
        Check.due("waitsFor(0)", x.waitsFor(0), 1);
        Check.due("waitsFor(1), eats", x.waitsFor(1), NONE);
        Check.due("waitsFor(2), at its leaf", x.waitsFor(2), NONE);
        x.ticks(1);
        Check.due("caterpillar(0, 4)", x.caterpillar(0, 4), 1);
        Check.due("waitsFor(2), gone", x.waitsFor(2), NONE);
        x.pull(0);
        Check.due("waitsFor(0), pulled", x.waitsFor(0), NONE);
        Check.dueThrow("waitsFor(3)", IndexOutOfBoundsException.class, () -> x.waitsFor(3));
        Check.dueThrow("waitsFor(-1)", IndexOutOfBoundsException.class, () -> x.waitsFor(-1));
        // it waits, but for none: the room is shut
        LongCaterpillars y = Check.house("Lh12141t01x13t03");
        Check.due("caterpillar(0, 4), a shut room", y.caterpillar(0, 4), 3);
        Check.due("waitsFor(0), a shut room", y.waitsFor(0), NONE);
        // by the rule 2 it goes round, and waits only if it can't
        LongCaterpillars z = Check.house("Lr2h14281h15159t01");
        Check.due("waitsFor(0), the rule 2", z.waitsFor(0), NONE);
        z.shut(20, true);
        Check.due("waitsFor(0), the rule 2, shut", z.waitsFor(0), 1);
        z.rule(1);
        Check.due("waitsFor(0), the rule 1", z.waitsFor(0), NONE);
        z.rule(0);
        Check.due("waitsFor(0), the rule 0", z.waitsFor(0), 1);
    }

    private static void waitsInTheCrack() {
        LongCaterpillars x = Check.house("Lh08119h08021h08141");
        Check.due("waitsFor(1), none is out", x.waitsFor(1), NONE);
        x.ticks(1);
        Check.due("waitsFor(1)", x.waitsFor(1), 0);
        Check.due("waitsFor(2)", x.waitsFor(2), 0);
        Check.due("caterpillar(1, 4)", x.caterpillar(1, 4), 1);
        Check.due("about(9)", x.about(9), 2);
        x.ticks(9);
        // 0 has left the room 8 in the tick 10, and 1 came out behind it
        Check.due("caterpillar(1, 4), tick 10", x.caterpillar(1, 4), 9);
        Check.due("caterpillar(1, 0), tick 10", x.caterpillar(1, 0), 1);
        Check.due("caterpillar(2, 4), tick 10", x.caterpillar(2, 4), 10);
        Check.due("waitsFor(2), tick 10", x.waitsFor(2), 1);
        Check.due("about(9), tick 10", x.about(9), 19);
    }

    private static void ringOfTwo() {
        LongCaterpillars x = Check.house("Lh06001h00032h03002t02");
        lie("ring of two", x, 1, 1, 0);
        lie("ring of two", x, 2, 2, 3);
        Check.due("waitsFor(0)", x.waitsFor(0), 1);
        Check.due("waitsFor(1)", x.waitsFor(1), 2);
        Check.due("waitsFor(2)", x.waitsFor(2), 1);
        Check.due("ring(0), 0 only waits for one in it", x.ring(0), 1);
        Check.due("ring(1)", x.ring(1), 2);
        x.ticks(3);
        Check.due("caterpillar(1, 4)", x.caterpillar(1, 4), 3);
        Check.due("caterpillar(2, 4)", x.caterpillar(2, 4), 3);
        x.rule(1);
        Check.due("ring(0), with the rule 1 as well", x.ring(0), 1);
        x.pull(2);
        Check.due("ring(0), pulled", x.ring(0), NONE);
        Check.due("ring(1), pulled", x.ring(1), NONE);
    }

    private static void ringOfFour() {
        // round about the room 14: from 7 to 9, from 9 to 21, from 21 to 19, from 19 to 7
        LongCaterpillars x = Check.house("Lh07093h09213h21193h19073t01");
        Check.due("not yet: ring(0)", x.ring(0), NONE);
        Check.due("not yet: ring(1)", x.ring(1), NONE);
        x.ticks(1);
        lie("ring of four", x, 0, 8, 7);
        lie("ring of four", x, 1, 15, 9);
        lie("ring of four", x, 2, 20, 21);
        lie("ring of four", x, 3, 13, 19);
        for (int i = 0; i < 4; i++) {
            Check.due("ring of four: waitsFor(" + i + ")", x.waitsFor(i), (i + 1) % 4);
        }
        Check.due("ring(0) of four", x.ring(0), 0);
        Check.due("ring(1) of four", x.ring(1), 4);
        x.ticks(2);
        Check.due("ring(1) of four, for ever", x.ring(1), 4);
        Check.due("about(9)", x.about(9), 8);
        // the lowest ring is told, not the largest
        LongCaterpillars z = Check.house("Lh30332h33302h07093h09213h21193h19073t02");
        Check.due("ring(0) of two rings", z.ring(0), 0);
        Check.due("ring(1) of two rings", z.ring(1), 2);
    }

    private static void ringOfTen() {
        // round the whole house, each in two rooms
        LongCaterpillars x = Check.house("Lh00022h02042h04112h11232h23352h35332h33312h31242h24122h12002t02");
        Check.due("waitsFor(9)", x.waitsFor(9), 0);
        Check.due("ring(0) of ten", x.ring(0), 0);
        Check.due("ring(1) of ten", x.ring(1), 10);
        x.pull(5);
        Check.due("ring(0) of ten, one pulled", x.ring(0), NONE);
        Check.due("ring(1) of ten, one pulled", x.ring(1), NONE);
    }

    private static void noRing() {
        LongCaterpillars x = Check.house("Lh00051h00041h00031t01");
        Check.due("ring(0), all wait for one that goes", x.ring(0), NONE);
        Check.due("ring(1), all wait for one that goes", x.ring(1), NONE);
        for (int what : new int[] {-1, 2, Integer.MIN_VALUE, Integer.MAX_VALUE}) {
            Check.dueThrow("ring(" + what + ")", IllegalArgumentException.class, () -> x.ring(what));
        }
    }
}
