import java.util.Arrays;

/** Promise 8: 'at most 7, which are taken (not of the open line)'; '0 if there are none.' */
public final class Promise8TakeBoundaryTest {
    private static final Checks CHECKS = new Checks("Promise 8");

    public static void main(String[] args) {
        none();
        atMostSeven();
        openLine();
        CHECKS.test("bytes 0 and bytes over 127", Promise8TakeBoundaryTest::values);
        CHECKS.test("full", Promise8TakeBoundaryTest::full);
        CHECKS.test("full with a line open", Promise8TakeBoundaryTest::fullAndOpen);
        CHECKS.test("round and round", Promise8TakeBoundaryTest::roundAndRound);
        CHECKS.test("round and round, nearly full", Promise8TakeBoundaryTest::roundNearlyFull);
        CHECKS.finish();
    }

    private static void none() {
        CHECKS.test("none, new", () -> leaves("new", new EventLineDesk(), 0, 0, -1));
        CHECKS.test("none, only an open line", () -> {
            for (int kind = 0; kind <= 4; kind++) {
                leaves("kind " + kind, Desks.open(kind, 9), 0, 0, kind, Bytes.open(kind, 9));
            }
        });
        CHECKS.test("none, all taken", () -> {
            EventLineDesk desk = Desks.ended(0, 7);
            desk.take();
            leaves("all taken", desk, 7, 1, -1);
        });
        CHECKS.test("none, all gone", () -> {
            EventLineDesk desk = Desks.ended(0, 7);
            desk.back(0);
            leaves("all gone", desk, 0, 0, -1);
        });
        CHECKS.test("none, some taken and the rest gone", () -> {
            EventLineDesk desk = Desks.ended(0, 4);
            desk.take();
            Desks.line(desk, 1, 5);
            desk.end();
            desk.back(4);
            leaves("the rest gone", desk, 4, 1, -1);
        });
    }

    private static void leaves(String when, EventLineDesk desk, int taken, int lines, int kind, int... bytes) {
        CHECKS.due(when + ": take()", desk.take(), 0L);
        CHECKS.due(when + ": take() once more", desk.take(), 0L);
        CHECKS.dueState(when, desk, taken, lines, kind, bytes);
    }

    private static void atMostSeven() {
        CHECKS.test("2 bytes, the shortest line", () -> takes(2));
        CHECKS.test("6 bytes", () -> takes(6));
        CHECKS.test("7 bytes, the most at once", () -> takes(7));
        CHECKS.test("8 bytes, one too many", () -> takes(8));
        CHECKS.test("14 bytes, twice the most", () -> takes(14));
        CHECKS.test("15 bytes, one too many again", () -> takes(15));
        CHECKS.test("7 bytes of several lines", Promise8TakeBoundaryTest::severalLines);
        CHECKS.test("a character in two pieces", Promise8TakeBoundaryTest::characterInTwoPieces);
        CHECKS.test("1 byte left, then another line", Promise8TakeBoundaryTest::oneLeftAndMore);
    }

    /** One line of so many bytes: the first piece, and what stands behind it. */
    private static void takes(int bytes) {
        EventLineDesk desk = Desks.ended(3, bytes);
        int[] line = Bytes.ended(3, bytes);
        CHECKS.due("take()", desk.take(), Bytes.piece(line, 0));
        int size = Math.min(7, bytes);
        CHECKS.dueState("take()", desk, size, 1, -1, Arrays.copyOfRange(line, size, bytes));
    }

    private static void severalLines() {
        EventLineDesk desk = new EventLineDesk();
        for (int kind = 0; kind <= 3; kind++) {
            desk.begin(kind);
        }
        desk.end();
        CHECKS.due("take()", desk.take(), 0x07280A290A410A3FL);
        CHECKS.dueState("take()", desk, 7, 4, -1, 10);
    }

    private static void characterInTwoPieces() {
        EventLineDesk desk = Desks.open(0, 5);
        desk.add(0x10000);
        desk.end();
        CHECKS.due("take()", desk.take(), 0x072861616161F090L);
        CHECKS.dueState("take()", desk, 7, 1, -1, 0x80, 0x80, 10);
    }

    private static void oneLeftAndMore() {
        EventLineDesk desk = Desks.ended(0, 8);
        desk.take();
        desk.begin(1);
        desk.end();
        CHECKS.due("take()", desk.take(), 0x030A290A00000000L);
        CHECKS.dueState("take()", desk, 10, 2, -1);
    }

    private static void openLine() {
        CHECKS.test("2 bytes before the open line", () -> takesBeforeOpen(2));
        CHECKS.test("6 bytes before the open line", () -> takesBeforeOpen(6));
        CHECKS.test("7 bytes before the open line", () -> takesBeforeOpen(7));
        CHECKS.test("8 bytes before the open line", () -> takesBeforeOpen(8));
        CHECKS.test("the open line ends and can be taken", Promise8TakeBoundaryTest::openLineEnds);
        CHECKS.test("the open line is ended by begin and by text", Promise8TakeBoundaryTest::openLineIsEnded);
    }

    private static void takesBeforeOpen(int bytes) {
        for (int kind = 0; kind <= 4; kind++) {
            EventLineDesk desk = Desks.ended(3, bytes);
            Desks.line(desk, kind, 8);
            int[] all = Bytes.ended(3, bytes);
            int size = Math.min(7, bytes);
            CHECKS.due("take(), kind " + kind + " open", desk.take(), Bytes.piece(all, 0));
            int[] left = Bytes.join(Arrays.copyOfRange(all, size, bytes), Bytes.open(kind, 8));
            CHECKS.dueState("take(), kind " + kind + " open", desk, size, 1, kind, left);
        }
    }

    private static void openLineEnds() {
        EventLineDesk desk = Desks.open(1, 6);
        CHECKS.due("take(), open", desk.take(), 0L);
        CHECKS.due("end()", desk.end(), 1);
        CHECKS.due("take(), ended", desk.take(), 0x072961616161610AL);
        CHECKS.dueState("take(), ended", desk, 7, 1, -1);
    }

    private static void openLineIsEnded() {
        EventLineDesk desk = Desks.open(4, 2);
        desk.begin(1);
        CHECKS.due("take() behind begin(1)", desk.take(), 0x032D610A00000000L);
        desk.text(98);
        CHECKS.due("take() behind text(98)", desk.take(), 0x02290A0000000000L);
        CHECKS.dueState("take()", desk, 5, 2, 4, 45, 98);
    }

    /** The highest byte of the answer tells how many, so a byte 0 at the end is not lost. */
    private static void values() {
        EventLineDesk desk = Desks.open(0, 1);
        for (int i = 0; i < 6; i++) {
            desk.add(0);
        }
        desk.add(0x10FFFF);
        desk.add(0x7FF);
        desk.end();
        CHECKS.due("take(), bytes 0", desk.take(), 0x0728000000000000L);
        CHECKS.due("take(), bytes over 127", desk.take(), 0x07F48FBFBFDFBF0AL);
        CHECKS.dueState("take()", desk, 14, 1, -1);
    }

    private static void full() {
        EventLineDesk desk = Desks.ended(4, 3000);
        int[] all = Bytes.ended(4, 3000);
        for (int i = 0; i < 428; i++) {
            CHECKS.due("take() number " + i, desk.take(), Bytes.piece(all, 7 * i));
            CHECKS.due("count(0)", desk.count(0), 2993 - 7 * i);
        }
        CHECKS.due("take(), the last four", desk.take(), 0x046161610A000000L);
        CHECKS.due("take(), none", desk.take(), 0L);
        CHECKS.dueState("all taken", desk, 3000, 1, -1);
    }

    private static void fullAndOpen() {
        EventLineDesk desk = Desks.open(4, 2999);
        leaves("one open line", desk, 0, 0, 4, Bytes.open(4, 2999));
    }

    /** Lines of 11 bytes, each taken before the next: every byte of a line comes to every place. */
    private static void roundAndRound() {
        EventLineDesk desk = new EventLineDesk();
        int[] line = {63, 98, 99, 0xF4, 0x8F, 0xBF, 0xBF, 92, 110, 0, 10};
        for (int i = 0; i < 9000; i++) {
            desk.begin(3);
            desk.add(98);
            desk.add(99);
            desk.add(0x10FFFF);
            desk.add(10);
            desk.add(0);
            desk.end();
            CHECKS.dueBytes("line " + i, desk, line);
        }
        CHECKS.dueState("all taken", desk, 99000, 9000, -1);
    }

    /** The desk is filled anew behind every take(), so the bytes stand as far apart as they may. */
    private static void roundNearlyFull() {
        EventLineDesk desk = new EventLineDesk();
        int written = 0;
        int taken = 0;
        for (int i = 0; i < 3000; i++) {
            while (desk.text(97 + written % 20)) {
                written++;
                desk.end();
            }
            long piece = 7;
            for (int j = 0; j < 7; j++) {
                piece = (piece << 8) | byteOfLines(taken + j);
            }
            CHECKS.due("take() number " + i, desk.take(), piece);
            taken += 7;
        }
        CHECKS.due("mark()", desk.mark(), 3 * written);
    }

    /** The byte at that place of lines of 3 bytes with one character of text. */
    private static int byteOfLines(int place) {
        int within = place % 3;
        return within == 0 ? 45 : within == 1 ? 97 + place / 3 % 20 : 10;
    }
}
