/** What the tests of the project share: it tells each wrong answer and ends with exit code 1 if there was one. */
final class Checks {
    private int wrong = 0;

    void due(String call, long got, long want) {
        if (got != want) {
            wrong++;
            System.out.println(call + " answered " + got + ", due is " + want);
        }
    }

    void due(String call, boolean got, boolean want) {
        due(call, got ? 1L : 0L, want ? 1L : 0L);
    }

    /** Takes all that can be taken and compares it with the bytes that are due. */
    void dueBytes(String what, EventLineDesk desk, int... want) {
        for (int from = 0; from < want.length; from += 7) {
            due(what + ", bytes from " + from, desk.take(), piece(want, from));
        }
        due(what + ", behind the last byte", desk.take(), 0L);
    }

    /** All four counts at once, so that a call that is refused can be seen to change nothing. */
    void dueCounts(String when, EventLineDesk desk, int bytes, int lines, int kind, int openBytes) {
        due(when + ": count(0)", desk.count(0), bytes);
        due(when + ": count(1)", desk.count(1), lines);
        due(when + ": count(2)", desk.count(2), kind);
        due(when + ": count(3)", desk.count(3), openBytes);
    }

    void finish() {
        if (wrong != 0) {
            System.out.println(wrong + " answers are not as due");
            System.exit(1);
        }
    }

    private static long piece(int[] bytes, int from) {
        int size = Math.min(7, bytes.length - from);
        long piece = (long) size << 56;
        for (int i = 0; i < size; i++) {
            piece |= (long) bytes[from + i] << (48 - 8 * i);
        }
        return piece;
    }
}
