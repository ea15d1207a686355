/**
 * What the tests of the project share: it tells each wrong answer with the promise and the case that
 * it breaks, and ends with exit code 1 if there was one.
 */
final class Checks {
    private final String promise;
    private String where;
    private int wrong = 0;

    Checks(String promise) {
        this.promise = promise;
        this.where = promise + ": ";
    }

    /** One case with a name of its own. An exception breaks it, but the next cases are still seen. */
    void test(String name, Runnable body) {
        where = promise + ", " + name + ": ";
        try {
            body.run();
        } catch (RuntimeException thrown) {
            wrong++;
            System.out.println(where + "threw " + thrown);
        }
        where = promise + ": ";
    }

    void due(String call, long got, long want) {
        if (got != want) {
            wrong++;
            System.out.println(where + call + " answered " + got + ", due is " + want);
        }
    }

    void due(String call, boolean got, boolean want) {
        due(call, got ? 1L : 0L, want ? 1L : 0L);
    }

    /** Takes all that can be taken and compares it with the bytes that are due. */
    void dueBytes(String what, EventLineDesk desk, int... want) {
        for (int from = 0; from < want.length; from += 7) {
            due(what + ", bytes from " + from, desk.take(), Bytes.piece(want, from));
        }
        due(what + ", behind the last byte", desk.take(), 0L);
    }

    /** All four counts at once. */
    void dueCounts(String when, EventLineDesk desk, int bytes, int lines, int kind, int openBytes) {
        due(when + ": count(0)", desk.count(0), bytes);
        due(when + ": count(1)", desk.count(1), lines);
        due(when + ": count(2)", desk.count(2), kind);
        due(when + ": count(3)", desk.count(3), openBytes);
    }

    /**
     * The whole state, asked by all the calls that tell of it: so many bytes taken before, so many
     * lines ended, the kind of the open line (-1 none), and the bytes that are not taken, those of the
     * open line too. It ends the open line and takes all, so the desk is used up behind it.
     */
    void dueState(String when, EventLineDesk desk, int taken, int lines, int kind, int... bytes) {
        boolean open = kind >= 0;
        dueCounts(when, desk, bytes.length, lines, kind, open ? Bytes.behindLastEnd(bytes) : 0);
        due(when + ": mark()", desk.mark(), open ? -1 : taken + bytes.length);
        due(when + ": end()", desk.end(), kind);
        int[] all = open ? Bytes.join(bytes, 10) : bytes;
        dueBytes(when, desk, all);
        dueCounts(when + ", all taken", desk, 0, open ? lines + 1 : lines, -1, 0);
        due(when + ", all taken: mark()", desk.mark(), taken + all.length);
    }

    void finish() {
        if (wrong != 0) {
            System.out.println(wrong + " answers are not as due");
            System.exit(1);
        }
    }
}
