/** Promise 2: 'false if there is no such kind, or no room.' */
public final class Promise2BeginBoundaryTest {
    private static final Checks CHECKS = new Checks("Promise 2");

    public static void main(String[] args) {
        CHECKS.test("kind 0, the least", () -> kindInside(0));
        CHECKS.test("kind 3, the greatest", () -> kindInside(3));
        CHECKS.test("kind -1, just below the least", () -> kindOutside(-1));
        CHECKS.test("kind 4, TEXT, just above the greatest", () -> kindOutside(4));
        CHECKS.test("kind 5, above all kinds", () -> kindOutside(5));
        CHECKS.test("the least int as kind", () -> kindOutside(Integer.MIN_VALUE));
        CHECKS.test("the greatest int as kind", () -> kindOutside(Integer.MAX_VALUE));
        CHECKS.test("numbers that a narrower type would take for kind 0", Promise2BeginBoundaryTest::wideNumbers);
        CHECKS.test("a line's first byte is no kind", Promise2BeginBoundaryTest::firstBytes);
        CHECKS.test("room, no line open, just enough", () -> roomInside(2998));
        CHECKS.test("room, no line open, a byte too few", () -> roomOutside(2999));
        CHECKS.test("room, no line open, full", () -> roomOutside(3000));
        CHECKS.test("room, a line open, just enough", Promise2BeginBoundaryTest::openLineInside);
        CHECKS.test("room, a line open, a byte too few", () -> openLineOutside(2998));
        CHECKS.test("room, a line open, full", () -> openLineOutside(2999));
        CHECKS.test("no such kind and no room", Promise2BeginBoundaryTest::neitherKindNorRoom);
        CHECKS.test("room again, just enough bytes taken", Promise2BeginBoundaryTest::takenJustEnough);
        CHECKS.test("room again, a byte taken too few", Promise2BeginBoundaryTest::takenTooFew);
        CHECKS.test("room again, gone back just enough", Promise2BeginBoundaryTest::goneBackJustEnough);
        CHECKS.test("no room again, gone back to the end", Promise2BeginBoundaryTest::goneBackToTheEnd);
        CHECKS.test("never short of room in 512 calls", Promise2BeginBoundaryTest::manyLines);
        CHECKS.finish();
    }

    private static void kindInside(int kind) {
        EventLineDesk desk = new EventLineDesk();
        CHECKS.due("begin, none open", desk.begin(kind), true);
        CHECKS.due("begin, the same kind open", desk.begin(kind), true);
        int first = Bytes.first(kind);
        CHECKS.dueState("begin twice", desk, 0, 1, kind, first, 10, first);
    }

    private static void kindOutside(int kind) {
        EventLineDesk desk = new EventLineDesk();
        CHECKS.due("none open", desk.begin(kind), false);
        CHECKS.dueState("none open", desk, 0, 0, -1);
        for (int open = 0; open <= 4; open++) {
            desk = Desks.open(open, 2);
            CHECKS.due("kind " + open + " open", desk.begin(kind), false);
            CHECKS.dueState("kind " + open + " open", desk, 0, 0, open, Bytes.open(open, 2));
        }
        desk = Desks.ended(1, 3);
        CHECKS.due("a line ended", desk.begin(kind), false);
        CHECKS.dueState("a line ended", desk, 0, 1, -1, Bytes.ended(1, 3));
    }

    private static void wideNumbers() {
        int[] kinds = {-256, 256, 1 << 16, -1 << 16, 1 << 30, Integer.MIN_VALUE};
        for (int kind : kinds) {
            kindOutside(kind);
        }
    }

    private static void firstBytes() {
        for (int kind = 0; kind <= 4; kind++) {
            kindOutside(Bytes.first(kind));
        }
    }

    private static void roomInside(int bytes) {
        for (int kind = 0; kind <= 3; kind++) {
            EventLineDesk desk = Desks.ended(4, bytes);
            CHECKS.due("begin(" + kind + ")", desk.begin(kind), true);
            int[] all = Bytes.join(Bytes.ended(4, bytes), Bytes.first(kind));
            CHECKS.dueState("begin(" + kind + ")", desk, 0, 1, kind, all);
        }
    }

    private static void roomOutside(int bytes) {
        for (int kind = 0; kind <= 3; kind++) {
            EventLineDesk desk = Desks.ended(4, bytes);
            CHECKS.due("begin(" + kind + ")", desk.begin(kind), false);
            CHECKS.dueState("begin(" + kind + ")", desk, 0, 1, -1, Bytes.ended(4, bytes));
        }
    }

    /** The byte that ends the open line comes too, so one byte less than without an open line. */
    private static void openLineInside() {
        for (int open = 0; open <= 4; open++) {
            EventLineDesk desk = Desks.open(open, 2997);
            CHECKS.due("begin(1), kind " + open + " open", desk.begin(1), true);
            int[] all = Bytes.join(Bytes.ended(open, 2998), 41);
            CHECKS.dueState("begin(1), kind " + open + " open", desk, 0, 1, 1, all);
        }
    }

    private static void openLineOutside(int bytes) {
        for (int open = 0; open <= 4; open++) {
            EventLineDesk desk = Desks.open(open, bytes);
            CHECKS.due("begin(1), kind " + open + " open", desk.begin(1), false);
            CHECKS.dueState("begin(1), kind " + open + " open", desk, 0, 0, open, Bytes.open(open, bytes));
        }
    }

    private static void neitherKindNorRoom() {
        EventLineDesk desk = Desks.ended(4, 3000);
        CHECKS.due("begin(4)", desk.begin(4), false);
        CHECKS.due("begin(-1)", desk.begin(-1), false);
        CHECKS.dueState("refused", desk, 0, 1, -1, Bytes.ended(4, 3000));
    }

    /** Of 2999 bytes take() gives the 2 of the first line and none of the open one. */
    private static void takenJustEnough() {
        EventLineDesk desk = Desks.ended(0, 2);
        Desks.line(desk, 2, 2997);
        CHECKS.due("begin(3), none taken", desk.begin(3), false);
        CHECKS.due("take()", desk.take(), 0x02280A0000000000L);
        CHECKS.due("begin(3), 2 taken", desk.begin(3), true);
        CHECKS.dueState("begin(3), 2 taken", desk, 2, 2, 3, Bytes.join(Bytes.ended(2, 2998), 63));
    }

    /** A line of 8 bytes is taken as 7 and 1, so the second take() makes room for 1 byte alone. */
    private static void takenTooFew() {
        EventLineDesk desk = Desks.ended(0, 8);
        desk.take();
        Desks.line(desk, 3, 2998);
        CHECKS.due("begin(0), 7 taken", desk.begin(0), false);
        CHECKS.due("take()", desk.take(), 0x010A000000000000L);
        CHECKS.due("begin(0), 8 taken", desk.begin(0), false);
        CHECKS.dueState("begin(0), 8 taken", desk, 8, 1, 3, Bytes.open(3, 2998));
    }

    private static void goneBackJustEnough() {
        EventLineDesk desk = Desks.ended(4, 2998);
        Desks.line(desk, 0, 1);
        desk.end();
        CHECKS.due("begin(1), full", desk.begin(1), false);
        CHECKS.due("back(2998)", desk.back(2998), true);
        CHECKS.due("begin(1)", desk.begin(1), true);
        CHECKS.dueState("begin(1)", desk, 0, 1, 1, Bytes.join(Bytes.ended(4, 2998), 41));
    }

    private static void goneBackToTheEnd() {
        EventLineDesk desk = Desks.ended(4, 2996);
        Desks.line(desk, 0, 2);
        desk.end();
        CHECKS.due("back(2999)", desk.back(2999), true);
        CHECKS.due("begin(1)", desk.begin(1), false);
        int[] all = Bytes.join(Bytes.ended(4, 2996), 40, 97, 10);
        CHECKS.dueState("begin(1)", desk, 0, 2, -1, all);
    }

    private static void manyLines() {
        EventLineDesk desk = new EventLineDesk();
        for (int i = 0; i < 510; i++) {
            CHECKS.due("begin, call " + i, desk.begin(i % 4), true);
        }
        CHECKS.due("count(0)", desk.count(0), 510 + 509);
        CHECKS.due("count(1)", desk.count(1), 509);
    }
}
