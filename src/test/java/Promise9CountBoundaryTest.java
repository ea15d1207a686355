/** Promise 9: '-1 for another what.' */
public final class Promise9CountBoundaryTest {
    private static final Checks CHECKS = new Checks("Promise 9");

    public static void main(String[] args) {
        whats();
        CHECKS.test("0, empty and with one byte", Promise9CountBoundaryTest::fewBytes);
        CHECKS.test("0, full, with and without an open line", Promise9CountBoundaryTest::manyBytes);
        CHECKS.test("0, all taken but the open line", Promise9CountBoundaryTest::onlyTheOpenLine);
        CHECKS.test("1, the open line has not ended", Promise9CountBoundaryTest::openLineIsNone);
        CHECKS.test("1, lines ended by begin and by text", Promise9CountBoundaryTest::endedByOthers);
        CHECKS.test("1, taken lines are counted", Promise9CountBoundaryTest::takenLines);
        CHECKS.test("1, lines gone back behind are not", Promise9CountBoundaryTest::goneLines);
        CHECKS.test("1, a character 10 ends no line", Promise9CountBoundaryTest::characterTen);
        CHECKS.test("2, none and each kind", Promise9CountBoundaryTest::kinds);
        CHECKS.test("3, none open", Promise9CountBoundaryTest::noOpenLine);
        CHECKS.test("3, the first byte alone", Promise9CountBoundaryTest::firstByte);
        CHECKS.test("3, bytes and not characters", Promise9CountBoundaryTest::openBytes);
        CHECKS.test("3, only of the last line", Promise9CountBoundaryTest::lastLine);
        CHECKS.test("each, behind calls that are refused", Promise9CountBoundaryTest::refusedCalls);
        CHECKS.finish();
    }

    private static void whats() {
        CHECKS.test("-1, just below the least what", () -> another(-1));
        CHECKS.test("0, the least what", () -> CHECKS.due("count(0)", Desks.ended(2, 5).count(0), 5));
        CHECKS.test("3, the greatest what", () -> CHECKS.due("count(3)", Desks.open(2, 5).count(3), 5));
        CHECKS.test("4, just above the greatest what", () -> another(4));
        CHECKS.test("the least int", () -> another(Integer.MIN_VALUE));
        CHECKS.test("the greatest int", () -> another(Integer.MAX_VALUE));
        CHECKS.test("numbers that a narrower type would take for 0 to 3", () -> {
            for (int what = 0; what <= 3; what++) {
                another(what + 4);
                another(what + 256);
                another(what - 256);
                another(what + (1 << 16));
                another(what + Integer.MIN_VALUE);
            }
        });
    }

    private static void another(int what) {
        String call = "count(" + what + ")";
        EventLineDesk desk = new EventLineDesk();
        CHECKS.due(call + ", empty", desk.count(what), -1);
        CHECKS.dueState(call + ", empty", desk, 0, 0, -1);
        desk = Desks.open(0, 2);
        CHECKS.due(call + ", a line open", desk.count(what), -1);
        CHECKS.dueState(call + ", a line open", desk, 0, 0, 0, 40, 97);
        desk = Desks.ended(0, 3000);
        CHECKS.due(call + ", full", desk.count(what), -1);
        CHECKS.dueState(call + ", full", desk, 0, 1, -1, Bytes.ended(0, 3000));
    }

    private static void fewBytes() {
        EventLineDesk desk = new EventLineDesk();
        CHECKS.due("count(0), empty", desk.count(0), 0);
        desk.begin(0);
        CHECKS.due("count(0), one byte", desk.count(0), 1);
    }

    /** The byte that will end the open line is not there before it has ended. */
    private static void manyBytes() {
        EventLineDesk desk = Desks.open(0, 2999);
        CHECKS.due("count(0), open", desk.count(0), 2999);
        desk.end();
        CHECKS.due("count(0), ended", desk.count(0), 3000);
        desk.take();
        CHECKS.due("count(0), 7 taken", desk.count(0), 2993);
    }

    private static void onlyTheOpenLine() {
        EventLineDesk desk = Desks.ended(0, 7);
        Desks.line(desk, 1, 4);
        CHECKS.due("count(0)", desk.count(0), 11);
        desk.take();
        CHECKS.due("count(0), 7 taken", desk.count(0), 4);
        desk.take();
        CHECKS.due("count(0), none to take", desk.count(0), 4);
        desk.back(7);
        CHECKS.due("count(0), the open line is gone", desk.count(0), 0);
    }

    private static void openLineIsNone() {
        for (int kind = 0; kind <= 4; kind++) {
            EventLineDesk desk = Desks.open(kind, 2);
            CHECKS.due("count(1), kind " + kind + " open", desk.count(1), 0);
            desk.end();
            CHECKS.due("count(1), kind " + kind + " ended", desk.count(1), 1);
            desk.end();
            CHECKS.due("count(1), end() refused", desk.count(1), 1);
        }
    }

    private static void endedByOthers() {
        EventLineDesk desk = Desks.open(0, 1);
        desk.begin(0);
        CHECKS.due("count(1), begin", desk.count(1), 1);
        desk.text(97);
        CHECKS.due("count(1), text", desk.count(1), 2);
        desk.text(97);
        CHECKS.due("count(1), text in the same line", desk.count(1), 2);
        desk.add(97);
        CHECKS.due("count(1), add refused", desk.count(1), 2);
        desk.begin(3);
        CHECKS.due("count(1), begin behind TEXT", desk.count(1), 3);
    }

    private static void takenLines() {
        EventLineDesk desk = Desks.ended(0, 7);
        desk.take();
        CHECKS.due("count(1), all taken", desk.count(1), 1);
        desk.begin(1);
        desk.end();
        CHECKS.due("count(1), one more", desk.count(1), 2);
        desk.back(7);
        CHECKS.due("count(1), gone back to the taken one", desk.count(1), 1);
    }

    private static void goneLines() {
        EventLineDesk desk = new EventLineDesk();
        for (int i = 0; i < 4; i++) {
            desk.begin(i);
        }
        CHECKS.due("count(1), three ended", desk.count(1), 3);
        desk.back(6);
        CHECKS.due("count(1), the open line is gone", desk.count(1), 3);
        desk.back(4);
        CHECKS.due("count(1), one is gone", desk.count(1), 2);
        desk.back(3);
        CHECKS.due("count(1), back refused", desk.count(1), 2);
        desk.back(0);
        CHECKS.due("count(1), all are gone", desk.count(1), 0);
    }

    private static void characterTen() {
        EventLineDesk desk = Desks.ended(0, 2);
        desk.begin(1);
        desk.add(10);
        desk.text(10);
        desk.end();
        CHECKS.due("count(1)", desk.count(1), 3);
        desk.back(2);
        CHECKS.due("count(1), gone back", desk.count(1), 1);
    }

    private static void kinds() {
        CHECKS.due("count(2), new", new EventLineDesk().count(2), -1);
        for (int kind = 0; kind <= 4; kind++) {
            EventLineDesk desk = Desks.open(kind, 2);
            CHECKS.due("count(2), kind " + kind + " open", desk.count(2), kind);
            desk.end();
            CHECKS.due("count(2), kind " + kind + " ended", desk.count(2), -1);
            Desks.line(desk, kind, 2);
            desk.back(3);
            CHECKS.due("count(2), kind " + kind + " gone", desk.count(2), -1);
        }
    }

    private static void noOpenLine() {
        EventLineDesk desk = new EventLineDesk();
        CHECKS.due("count(3), new", desk.count(3), 0);
        desk.begin(0);
        desk.end();
        CHECKS.due("count(3), ended", desk.count(3), 0);
        desk.text(97);
        desk.back(2);
        CHECKS.due("count(3), gone", desk.count(3), 0);
        desk.take();
        CHECKS.due("count(3), all taken", desk.count(3), 0);
        CHECKS.due("count(3), full", Desks.ended(0, 3000).count(3), 0);
    }

    private static void firstByte() {
        EventLineDesk desk = new EventLineDesk();
        for (int kind = 0; kind <= 3; kind++) {
            desk.begin(kind);
            CHECKS.due("count(3), begin(" + kind + ")", desk.count(3), 1);
        }
        desk.text(97);
        CHECKS.due("count(3), text(97)", desk.count(3), 2);
    }

    private static void openBytes() {
        int[] characters = {0, 10, 92, 0x7F, 0x80, 0x7FF, 0x800, 0xFFFF, 0x10000, 0x10FFFF};
        int[] sizes = {1, 2, 2, 1, 2, 2, 3, 3, 4, 4};
        EventLineDesk desk = Desks.open(0, 1);
        int bytes = 1;
        for (int i = 0; i < characters.length; i++) {
            desk.add(characters[i]);
            bytes += sizes[i];
            CHECKS.due("count(3), add(" + characters[i] + ")", desk.count(3), bytes);
        }
        CHECKS.due("count(3), the longest line", Desks.open(0, 2999).count(3), 2999);
    }

    private static void lastLine() {
        EventLineDesk desk = Desks.ended(0, 9);
        Desks.line(desk, 1, 5);
        CHECKS.due("count(3)", desk.count(3), 5);
        desk.take();
        CHECKS.due("count(3), 7 taken", desk.count(3), 5);
        desk.take();
        CHECKS.due("count(3), all taken before it", desk.count(3), 5);
    }

    private static void refusedCalls() {
        EventLineDesk desk = Desks.ended(0, 9);
        Desks.line(desk, 1, 5);
        desk.take();
        desk.begin(4);
        desk.add(-1);
        desk.text(0xD800);
        desk.back(8);
        desk.back(10);
        desk.back(0);
        desk.mark();
        desk.count(4);
        CHECKS.dueCounts("refused", desk, 7, 1, 1, 5);
        CHECKS.dueCounts("asked before", desk, 7, 1, 1, 5);
    }
}
