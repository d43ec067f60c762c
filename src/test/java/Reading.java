/** What can be read of an object, as a text, so that two objects can be compared. */
final class Reading {

    /** What about() is asked behind each undo: few, as an object answers for 512 calls alone. */
    private static final int[] MARKS = {0, 4, 5, 7, 8};

    private Reading() {
    }

    /** All that can be asked of the present state; changes nothing. */
    static String state(LongCaterpillars x) {
        StringBuilder s = new StringBuilder();
        for (int what = 0; what <= 9; what++) {
            s.append(x.about(what)).append(' ');
        }
        for (int i = 0; i < x.about(0); i++) {
            s.append(" | ");
            for (int what = 0; what <= 8; what++) {
                s.append(x.caterpillar(i, what)).append(' ');
            }
            for (int k = 0; k < x.caterpillar(i, 1); k++) {
                s.append(x.lies(i, k)).append(' ');
            }
            s.append(x.next(i)).append(' ').append(x.waitsFor(i));
        }
        s.append(" | ");
        for (int k = 0; k < 36; k++) {
            s.append(x.room(k, 0)).append(x.room(k, 1) == 1 ? "x " : " ");
        }
        return s.append(x.ring(0)).append(' ').append(x.ring(1)).toString();
    }

    /** The state, the remembered ones, the save slots and the text; uses the object up. */
    static String whole(LongCaterpillars x) {
        StringBuilder s = new StringBuilder(state(x));
        s.append("\nerror position ").append(x.errorPosition());
        for (int k = 0; k <= 14; k++) {
            step(s, "undo ", x, x::undo);
        }
        step(s, "restore 0 ", x, () -> x.restore(0));
        step(s, "restore 1 ", x, () -> x.restore(1));
        step(s, "load ", x, x::load);
        return s.append("\ntext ").append(x.clearText()).toString();
    }

    private static void step(StringBuilder s, String name, LongCaterpillars x, Check.Call call) {
        s.append('\n').append(name);
        try {
            s.append(call.answer());
        } catch (RuntimeException e) {
            s.append(e.getClass().getSimpleName());
        }
        s.append(':');
        for (int what : MARKS) {
            s.append(' ').append(x.about(what));
        }
    }
}
