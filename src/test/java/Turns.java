/** The turns of promise 25, done by the calls of the face. */
final class Turns {

    private Turns() {
    }

    /** One turn; throws what the call throws. */
    static void byTheFace(LongCaterpillars x, int r) {
        int q = r / 8;
        int kind = r % 8;
        if (kind <= 2) {
            x.hatch(q % 36, q / 36 % 36, 1 + q / 1296 % 9);
        } else if (kind == 3 && q / 4 % 4 == 0) {
            x.rule(q % 3);
        } else if (kind == 3) {
            x.shut(q % 36, q / 64 % 4 == 0);
        } else if (kind == 4 && q / 16 % 4 == 0) {
            x.pull(q % 10);
        } else if (kind == 4) {
            x.ticks(1);
        } else {
            x.ticks(1 + q % 12);
        }
    }
}
