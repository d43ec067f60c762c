import java.util.function.Supplier;
import java.util.function.ToIntFunction;

/** The sentences of "Terms", EXCEPTIONS, and those that say that a call changes nothing. */
public final class EdgesOfExceptionsTest {

    private static final Class<IndexOutOfBoundsException> INDEX = IndexOutOfBoundsException.class;
    private static final Class<IllegalArgumentException> ARGUMENT = IllegalArgumentException.class;
    private static final Class<IllegalStateException> STATE = IllegalStateException.class;

    private EdgesOfExceptionsTest() {
    }

    public static void main(String[] args) {
        Check.sentence("If several exceptions apply to a call, the one that its description names first is thrown",
                EdgesOfExceptionsTest::theFirstOfSeveral);
        Check.sentence("A call that throws an exception changes nothing: text",
                EdgesOfExceptionsTest::textCallsThatThrow);
        Check.sentence("A call that throws an exception changes nothing: what there is",
                EdgesOfExceptionsTest::questionsThatThrow);
        Check.sentence("A call that throws an exception changes nothing: actions",
                EdgesOfExceptionsTest::actionsThatThrow);
        Check.sentence("A call that throws an exception changes nothing: what would be, scripts, simulations",
                EdgesOfExceptionsTest::foresightThatThrows);
        Check.sentence("A call that throws an exception changes nothing: save slots",
                EdgesOfExceptionsTest::slotCallsThatThrow);
        Check.sentence("these and all following methods up to the save slots change nothing",
                EdgesOfExceptionsTest::foresightChangesNothing);
        Check.sentence("errorPosition and what there is: what only tells changes nothing",
                EdgesOfExceptionsTest::questionsChangeNothing);
        Check.end();
    }

    /** An object with all in use: a house as text, states remembered, both slots saved; 3 gone, 4 pulled. */
    private static LongCaterpillars used() {
        LongCaterpillars x = Check.withText("Lr1h00053t04x20");
        x.shut(14, true);
        x.hatch(0, 35, 9);
        x.save(0);
        x.hatch(5, 0, 4);
        x.hatch(30, 1, 2);
        x.hatch(35, 35, 1);
        x.hatch(12, 12, 2);
        x.ticks(2);
        x.save(1);
        x.rule(1);
        x.pull(4);
        x.ticks(1);
        return x;
    }

    /** As used(), with ten caterpillars. */
    private static LongCaterpillars full() {
        LongCaterpillars x = used();
        for (int i = 5; i < 10; i++) {
            x.hatch(i, i, i);
        }
        return x;
    }

    /** As used(), with a text of 120 characters that is no house. */
    private static LongCaterpillars withFullText() {
        LongCaterpillars x = used();
        x.clearText();
        Check.write(x, "L" + "r1".repeat(59) + "x");
        return x;
    }

    /** As used(), but no state is remembered, and only one slot is saved. */
    private static LongCaterpillars justLoaded() {
        LongCaterpillars x = used();
        x.load();
        x.save(1);
        return x;
    }

    private static void first(String call, Class<? extends RuntimeException> due, Check.Call made) {
        Check.dueThrow(call, due, made);
    }

    private static void theFirstOfSeveral() {
        LongCaterpillars text = withFullText();
        first("append(-1), full", ARGUMENT, () -> text.append(-1));
        first("append(256), full", ARGUMENT, () -> text.append(256));
        LongCaterpillars x = full();
        first("caterpillar(10, 9)", INDEX, () -> x.caterpillar(10, 9));
        first("caterpillar(-1, -1)", INDEX, () -> x.caterpillar(-1, -1));
        first("room(36, 2)", INDEX, () -> x.room(36, 2));
        first("room(-1, -1)", INDEX, () -> x.room(-1, -1));
        first("hatch(36, 0, 0), full", INDEX, () -> x.hatch(36, 0, 0));
        first("hatch(0, -1, 10), full", INDEX, () -> x.hatch(0, -1, 10));
        first("hatch(36, 0, 1), full", INDEX, () -> x.hatch(36, 0, 1));
        first("hatch(0, 0, 0), full", ARGUMENT, () -> x.hatch(0, 0, 0));
        first("hatch(0, 0, 10), full", ARGUMENT, () -> x.hatch(0, 0, 10));
        first("hatch(0, 0, 1), full", STATE, () -> x.hatch(0, 0, 1));
        first("ifHatched(36, 0, 0)", INDEX, () -> x.ifHatched(36, 0, 0));
        first("ifHatched(0, 36, 10)", INDEX, () -> x.ifHatched(0, 36, 10));
        LongCaterpillars y = used();
        first("hatch(36, 0, 0)", INDEX, () -> y.hatch(36, 0, 0));
        first("hatch(0, -1, 10)", INDEX, () -> y.hatch(0, -1, 10));
        first("ifHatched(-1, 0, 0)", INDEX, () -> y.ifHatched(-1, 0, 0));
        LongCaterpillars empty = new LongCaterpillars();
        first("restore(2), nothing saved", INDEX, () -> empty.restore(2));
        first("restore(-1), nothing saved", INDEX, () -> empty.restore(-1));
        first("caterpillar(0, 9), empty", INDEX, () -> empty.caterpillar(0, 9));
    }

    private static void refused(String call, Class<? extends RuntimeException> due, Supplier<LongCaterpillars> maker,
            ToIntFunction<LongCaterpillars> made) {
        LongCaterpillars x = maker.get();
        Check.dueThrow(call, due, () -> made.applyAsInt(x));
        unchanged(call, x, maker);
    }

    private static void told(String call, ToIntFunction<LongCaterpillars> made) {
        LongCaterpillars x = used();
        made.applyAsInt(x);
        unchanged(call, x, EdgesOfExceptionsTest::used);
    }

    private static void unchanged(String call, LongCaterpillars x, Supplier<LongCaterpillars> maker) {
        String got = Reading.whole(x);
        String due = Reading.whole(maker.get());
        Check.due(call + ": nothing is changed", got.equals(due) ? 1 : 0, 1);
    }

    private static void textCallsThatThrow() {
        refused("append(-1)", ARGUMENT, EdgesOfExceptionsTest::used, x -> x.append(-1));
        refused("append(256)", ARGUMENT, EdgesOfExceptionsTest::used, x -> x.append(256));
        refused("append('0'), full", STATE, EdgesOfExceptionsTest::withFullText, x -> x.append('0'));
        refused("load(), no house", STATE, EdgesOfExceptionsTest::withFullText, x -> x.load());
    }

    private static void questionsThatThrow() {
        refused("about(-1)", ARGUMENT, EdgesOfExceptionsTest::used, x -> x.about(-1));
        refused("about(10)", ARGUMENT, EdgesOfExceptionsTest::used, x -> x.about(10));
        refused("caterpillar(5, 0)", INDEX, EdgesOfExceptionsTest::used, x -> x.caterpillar(5, 0));
        refused("caterpillar(0, 9)", ARGUMENT, EdgesOfExceptionsTest::used, x -> x.caterpillar(0, 9));
        refused("lies(5, 0)", INDEX, EdgesOfExceptionsTest::used, x -> x.lies(5, 0));
        refused("lies(0, 3)", INDEX, EdgesOfExceptionsTest::used, x -> x.lies(0, 3));
        refused("lies(3, 0), gone", INDEX, EdgesOfExceptionsTest::used, x -> x.lies(3, 0));
        refused("lies(4, 0), pulled", INDEX, EdgesOfExceptionsTest::used, x -> x.lies(4, 0));
        refused("room(36, 0)", INDEX, EdgesOfExceptionsTest::used, x -> x.room(36, 0));
        refused("room(0, 2)", ARGUMENT, EdgesOfExceptionsTest::used, x -> x.room(0, 2));
        refused("next(5)", INDEX, EdgesOfExceptionsTest::used, x -> x.next(5));
        refused("waitsFor(5)", INDEX, EdgesOfExceptionsTest::used, x -> x.waitsFor(5));
        refused("ring(2)", ARGUMENT, EdgesOfExceptionsTest::used, x -> x.ring(2));
    }

    private static void actionsThatThrow() {
        refused("hatch(36, 0, 1)", INDEX, EdgesOfExceptionsTest::used, x -> x.hatch(36, 0, 1));
        refused("hatch(0, -1, 1)", INDEX, EdgesOfExceptionsTest::used, x -> x.hatch(0, -1, 1));
        refused("hatch(0, 0, 0)", ARGUMENT, EdgesOfExceptionsTest::used, x -> x.hatch(0, 0, 0));
        refused("hatch(0, 0, 10)", ARGUMENT, EdgesOfExceptionsTest::used, x -> x.hatch(0, 0, 10));
        refused("hatch(0, 0, 1), full", STATE, EdgesOfExceptionsTest::full, x -> x.hatch(0, 0, 1));
        refused("ticks(0)", ARGUMENT, EdgesOfExceptionsTest::used, x -> x.ticks(0));
        refused("ticks(61)", ARGUMENT, EdgesOfExceptionsTest::used, x -> x.ticks(61));
        refused("rule(-1)", ARGUMENT, EdgesOfExceptionsTest::used, x -> x.rule(-1));
        refused("rule(3)", ARGUMENT, EdgesOfExceptionsTest::used, x -> x.rule(3));
        refused("shut(36, true)", INDEX, EdgesOfExceptionsTest::used, x -> x.shut(36, true));
        refused("shut(-1, false)", INDEX, EdgesOfExceptionsTest::used, x -> x.shut(-1, false));
        refused("shut(0, true), taken", STATE, EdgesOfExceptionsTest::used, x -> x.shut(0, true));
        refused("pull(5)", INDEX, EdgesOfExceptionsTest::used, x -> x.pull(5));
        refused("pull(3), gone", STATE, EdgesOfExceptionsTest::used, x -> x.pull(3));
        refused("pull(4), pulled", STATE, EdgesOfExceptionsTest::used, x -> x.pull(4));
        refused("undo(), none remembered", STATE, EdgesOfExceptionsTest::justLoaded, x -> x.undo());
    }

    private static void foresightThatThrows() {
        refused("goneIn(5)", INDEX, EdgesOfExceptionsTest::used, x -> x.goneIn(5));
        refused("goneIn(-1)", INDEX, EdgesOfExceptionsTest::used, x -> x.goneIn(-1));
        refused("ifHatched(36, 0, 1)", INDEX, EdgesOfExceptionsTest::used, x -> x.ifHatched(36, 0, 1));
        refused("ifHatched(0, -1, 1)", INDEX, EdgesOfExceptionsTest::used, x -> x.ifHatched(0, -1, 1));
        refused("ifHatched(0, 0, 10)", ARGUMENT, EdgesOfExceptionsTest::used, x -> x.ifHatched(0, 0, 10));
        refused("runScript(0, 0)", ARGUMENT, EdgesOfExceptionsTest::used, x -> x.runScript(0, 0));
        refused("runScript(4, 100001)", ARGUMENT, EdgesOfExceptionsTest::used, x -> x.runScript(4, 100001));
        refused("runScript(1, -1)", ARGUMENT, EdgesOfExceptionsTest::used, x -> x.runScript(1, -1));
        refused("runScript(1, 1100001)", ARGUMENT, EdgesOfExceptionsTest::used, x -> x.runScript(1, 1_100001));
        refused("simulate(1, 0)", ARGUMENT, EdgesOfExceptionsTest::used, x -> x.simulate(1, 0));
        refused("simulate(1, 61)", ARGUMENT, EdgesOfExceptionsTest::used, x -> x.simulate(1, 61));
    }

    private static void slotCallsThatThrow() {
        refused("save(-1)", INDEX, EdgesOfExceptionsTest::used, x -> x.save(-1));
        refused("save(2)", INDEX, EdgesOfExceptionsTest::used, x -> x.save(2));
        refused("restore(-1)", INDEX, EdgesOfExceptionsTest::used, x -> x.restore(-1));
        refused("restore(2)", INDEX, EdgesOfExceptionsTest::used, x -> x.restore(2));
        refused("restore(0), nothing saved", STATE, EdgesOfExceptionsTest::justLoaded, x -> x.restore(0));
        refused("restore(1), nothing saved, states remembered", STATE, EdgesOfExceptionsTest::actedOnly,
                x -> x.restore(1));
    }

    private static LongCaterpillars actedOnly() {
        LongCaterpillars x = new LongCaterpillars();
        x.hatch(0, 35, 9);
        x.ticks(5);
        return x;
    }

    private static void foresightChangesNothing() {
        told("goneIn(0)", x -> x.goneIn(0));
        told("goneIn(3), gone", x -> x.goneIn(3));
        told("goneIn(4), pulled", x -> x.goneIn(4));
        told("throughIn()", x -> x.throughIn());
        told("bestRule()", x -> x.bestRule());
        told("bestPull()", x -> x.bestPull());
        told("ifHatched(7, 8, 9)", x -> x.ifHatched(7, 8, 9));
        told("runScript, actions", x -> x.runScript(3, 207089_100060_500000L));
        told("runScript, a rule and a room", x -> x.runScript(2, 300001_410001L));
        told("runScript, questions", x -> x.runScript(3, 600001_800000_900999L));
        told("simulate(1, 60)", x -> x.simulate(1, 60));
        told("simulate(-7, 1)", x -> x.simulate(-7, 1));
    }

    private static void questionsChangeNothing() {
        told("errorPosition()", x -> x.errorPosition());
        told("all questions", x -> Reading.state(x).length());
    }
}
