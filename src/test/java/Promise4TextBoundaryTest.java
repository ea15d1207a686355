/** Promise 4: 'false if it is none, or there is no room.' */
public final class Promise4TextBoundaryTest {
    private static final Checks CHECKS = new Checks("Promise 4");

    public static void main(String[] args) {
        characters();
        sizes();
        room();
        CHECKS.finish();
    }

    private static void characters() {
        CHECKS.test("0, the least character", () -> inside(0, 0));
        CHECKS.test("-1, just below it", () -> outside(-1));
        CHECKS.test("D7FF, the last before the gap", () -> inside(0xD7FF, 0xED, 0x9F, 0xBF));
        CHECKS.test("D800, the first in the gap", () -> outside(0xD800));
        CHECKS.test("DBFF and DC00, in the gap", () -> {
            outside(0xDBFF);
            outside(0xDC00);
        });
        CHECKS.test("DFFF, the last in the gap", () -> outside(0xDFFF));
        CHECKS.test("E000, the first behind the gap", () -> inside(0xE000, 0xEE, 0x80, 0x80));
        CHECKS.test("10FFFF, the greatest character", () -> inside(0x10FFFF, 0xF4, 0x8F, 0xBF, 0xBF));
        CHECKS.test("110000, just above it", () -> outside(0x110000));
        CHECKS.test("the least int", () -> outside(Integer.MIN_VALUE));
        CHECKS.test("the greatest int", () -> outside(Integer.MAX_VALUE));
        CHECKS.test("numbers with 97 in their low bits", () -> {
            outside(97 - 256);
            outside(97 - (1 << 16));
            outside(97 + (1 << 21));
            outside(97 + Integer.MIN_VALUE);
        });
    }

    private static void sizes() {
        CHECKS.test("7F, the last of one byte", () -> inside(0x7F, 0x7F));
        CHECKS.test("80, the first of two bytes", () -> inside(0x80, 0xC2, 0x80));
        CHECKS.test("7FF, the last of two bytes", () -> inside(0x7FF, 0xDF, 0xBF));
        CHECKS.test("800, the first of three bytes", () -> inside(0x800, 0xE0, 0xA0, 0x80));
        CHECKS.test("FFFF, the last of three bytes", () -> inside(0xFFFF, 0xEF, 0xBF, 0xBF));
        CHECKS.test("10000, the first of four bytes", () -> inside(0x10000, 0xF0, 0x90, 0x80, 0x80));
        CHECKS.test("12345 and 1F600, every byte another", () -> {
            inside(0x12345, 0xF0, 0x92, 0x8D, 0x85);
            inside(0x1F600, 0xF0, 0x9F, 0x98, 0x80);
        });
        CHECKS.test("9 and 10, and those beside them", () -> {
            inside(8, 8);
            inside(9, 92, 116);
            inside(10, 92, 110);
            inside(11, 11);
        });
        CHECKS.test("13, and those beside it", () -> {
            inside(12, 12);
            inside(13, 92, 114);
            inside(14, 14);
        });
        CHECKS.test("92, and those beside it", () -> {
            inside(91, 91);
            inside(92, 92, 92);
            inside(93, 93);
        });
        CHECKS.test("45, the first byte of a TEXT line", () -> inside(45, 45));
    }

    private static void room() {
        CHECKS.test("room, one byte", () -> {
            atTheEdge(0, 0);
            atTheEdge(0x7F, 0x7F);
        });
        CHECKS.test("room, two bytes, written otherwise", () -> {
            atTheEdge(92, 92, 92);
            atTheEdge(10, 92, 110);
            atTheEdge(9, 92, 116);
            atTheEdge(13, 92, 114);
        });
        CHECKS.test("room, two bytes", () -> {
            atTheEdge(0x80, 0xC2, 0x80);
            atTheEdge(0x7FF, 0xDF, 0xBF);
        });
        CHECKS.test("room, three bytes", () -> {
            atTheEdge(0x800, 0xE0, 0xA0, 0x80);
            atTheEdge(0xFFFF, 0xEF, 0xBF, 0xBF);
        });
        CHECKS.test("room, four bytes", () -> {
            atTheEdge(0x10000, 0xF0, 0x90, 0x80, 0x80);
            atTheEdge(0x10FFFF, 0xF4, 0x8F, 0xBF, 0xBF);
        });
        CHECKS.test("room, full with no line open", Promise4TextBoundaryTest::fullNoneOpen);
        CHECKS.test("room, full with another line open", Promise4TextBoundaryTest::fullAnotherOpen);
        CHECKS.test("room, full with a TEXT line open", Promise4TextBoundaryTest::fullTextOpen);
        CHECKS.test("no room for a TEXT line, but for the open one", Promise4TextBoundaryTest::onlyTheOpenLine);
        CHECKS.test("no character and no room", Promise4TextBoundaryTest::neitherCharacterNorRoom);
        CHECKS.test("room again, bytes taken", Promise4TextBoundaryTest::takenBytes);
        CHECKS.test("room again, gone back", Promise4TextBoundaryTest::goneBack);
        CHECKS.test("never short of room in 512 calls", Promise4TextBoundaryTest::longestText);
    }

    private static void inside(int character, int... bytes) {
        String call = "text(" + character + ")";
        EventLineDesk desk = new EventLineDesk();
        CHECKS.due(call + ", none open", desk.text(character), true);
        CHECKS.dueState(call + ", none open", desk, 0, 0, 4, Bytes.join(Bytes.open(4, 1), bytes));
        desk = Desks.open(4, 2);
        CHECKS.due(call + ", TEXT open", desk.text(character), true);
        CHECKS.dueState(call + ", TEXT open", desk, 0, 0, 4, Bytes.join(Bytes.open(4, 2), bytes));
        for (int kind = 0; kind <= 3; kind++) {
            desk = Desks.open(kind, 1);
            CHECKS.due(call + ", kind " + kind + " open", desk.text(character), true);
            int[] all = Bytes.join(new int[] {Bytes.first(kind), 10, 45}, bytes);
            CHECKS.dueState(call + ", kind " + kind + " open", desk, 0, 1, 4, all);
        }
    }

    /** No line is opened by a call that is refused, and none is ended. */
    private static void outside(int number) {
        String call = "text(" + number + ")";
        EventLineDesk desk = new EventLineDesk();
        CHECKS.due(call + ", none open", desk.text(number), false);
        CHECKS.dueState(call + ", none open", desk, 0, 0, -1);
        for (int kind = 0; kind <= 4; kind++) {
            desk = Desks.open(kind, 2);
            CHECKS.due(call + ", kind " + kind + " open", desk.text(number), false);
            CHECKS.dueState(call + ", kind " + kind + " open", desk, 0, 0, kind, Bytes.open(kind, 2));
        }
        desk = Desks.ended(4, 3);
        CHECKS.due(call + ", TEXT ended", desk.text(number), false);
        CHECKS.dueState(call + ", TEXT ended", desk, 0, 1, -1, Bytes.ended(4, 3));
    }

    /** With just the room, and with a byte too few. */
    private static void atTheEdge(int character, int... bytes) {
        textOpen(character, bytes);
        noneOpen(character, bytes);
        for (int kind = 0; kind <= 3; kind++) {
            anotherOpen(kind, character, bytes);
        }
    }

    private static void textOpen(int character, int[] bytes) {
        String call = "text(" + character + "), TEXT open";
        int most = 2999 - bytes.length;
        EventLineDesk desk = Desks.open(4, most);
        CHECKS.due(call + ", just the room", desk.text(character), true);
        CHECKS.dueState(call + ", just the room", desk, 0, 0, 4, Bytes.join(Bytes.open(4, most), bytes));
        desk = Desks.open(4, most + 1);
        CHECKS.due(call + ", a byte too few", desk.text(character), false);
        CHECKS.dueState(call + ", a byte too few", desk, 0, 0, 4, Bytes.open(4, most + 1));
    }

    /** The first byte of the TEXT line comes too. */
    private static void noneOpen(int character, int[] bytes) {
        String call = "text(" + character + "), none open";
        int most = 2998 - bytes.length;
        EventLineDesk desk = Desks.ended(0, most);
        CHECKS.due(call + ", just the room", desk.text(character), true);
        int[] all = Bytes.join(Bytes.join(Bytes.ended(0, most), 45), bytes);
        CHECKS.dueState(call + ", just the room", desk, 0, 1, 4, all);
        desk = Desks.ended(0, most + 1);
        CHECKS.due(call + ", a byte too few", desk.text(character), false);
        CHECKS.dueState(call + ", a byte too few", desk, 0, 1, -1, Bytes.ended(0, most + 1));
    }

    /** The byte that ends the other line and the first byte of the TEXT line come too. */
    private static void anotherOpen(int kind, int character, int[] bytes) {
        String call = "text(" + character + "), kind " + kind + " open";
        int most = 2997 - bytes.length;
        EventLineDesk desk = Desks.open(kind, most);
        CHECKS.due(call + ", just the room", desk.text(character), true);
        int[] all = Bytes.join(Bytes.join(Bytes.open(kind, most), 10, 45), bytes);
        CHECKS.dueState(call + ", just the room", desk, 0, 1, 4, all);
        desk = Desks.open(kind, most + 1);
        CHECKS.due(call + ", a byte too few", desk.text(character), false);
        CHECKS.dueState(call + ", a byte too few", desk, 0, 0, kind, Bytes.open(kind, most + 1));
    }

    private static void fullNoneOpen() {
        EventLineDesk desk = Desks.ended(4, 3000);
        CHECKS.due("text(97)", desk.text(97), false);
        CHECKS.dueState("text(97)", desk, 0, 1, -1, Bytes.ended(4, 3000));
    }

    private static void fullAnotherOpen() {
        for (int kind = 0; kind <= 3; kind++) {
            EventLineDesk desk = Desks.open(kind, 2999);
            CHECKS.due("text(97), kind " + kind, desk.text(97), false);
            CHECKS.dueState("text(97), kind " + kind, desk, 0, 0, kind, Bytes.open(kind, 2999));
        }
    }

    private static void fullTextOpen() {
        EventLineDesk desk = Desks.open(4, 2999);
        CHECKS.due("text(97)", desk.text(97), false);
        CHECKS.dueState("text(97)", desk, 0, 0, 4, Bytes.open(4, 2999));
    }

    private static void onlyTheOpenLine() {
        EventLineDesk desk = Desks.open(3, 2997);
        CHECKS.due("text(97)", desk.text(97), false);
        CHECKS.due("add(97)", desk.add(97), true);
        CHECKS.due("text(97) once more", desk.text(97), false);
        CHECKS.dueState("text(97) once more", desk, 0, 0, 3, Bytes.open(3, 2998));
    }

    private static void neitherCharacterNorRoom() {
        EventLineDesk desk = Desks.open(4, 2999);
        CHECKS.due("text(-1)", desk.text(-1), false);
        CHECKS.due("text(57343)", desk.text(0xDFFF), false);
        CHECKS.due("text(1114112)", desk.text(0x110000), false);
        CHECKS.dueState("text", desk, 0, 0, 4, Bytes.open(4, 2999));
    }

    /** Seven bytes are taken of a full desk: a TEXT line of five characters has room, of six has not. */
    private static void takenBytes() {
        EventLineDesk desk = Desks.ended(0, 3000);
        CHECKS.due("text(97), full", desk.text(97), false);
        CHECKS.due("take()", desk.take(), 0x0728616161616161L);
        for (int i = 0; i < 5; i++) {
            CHECKS.due("text(97), 7 taken", desk.text(97), true);
        }
        CHECKS.due("text(97), full again", desk.text(97), false);
        int[] left = java.util.Arrays.copyOfRange(Bytes.ended(0, 3000), 7, 3000);
        CHECKS.dueState("full again", desk, 7, 1, 4, Bytes.join(left, Bytes.open(4, 6)));
    }

    private static void goneBack() {
        EventLineDesk desk = Desks.ended(0, 2996);
        Desks.line(desk, 4, 3);
        CHECKS.due("text(97), full", desk.text(97), false);
        CHECKS.due("back(2996)", desk.back(2996), true);
        CHECKS.due("text(2048)", desk.text(0x800), false);
        CHECKS.due("text(128)", desk.text(0x80), true);
        CHECKS.due("text(97), full again", desk.text(97), false);
        int[] all = Bytes.join(Bytes.ended(0, 2996), 45, 0xC2, 0x80);
        CHECKS.dueState("full again", desk, 0, 1, 4, all);
    }

    private static void longestText() {
        EventLineDesk desk = new EventLineDesk();
        for (int i = 0; i < 510; i++) {
            CHECKS.due("text(65536), call " + i, desk.text(0x10000), true);
        }
        CHECKS.due("count(0)", desk.count(0), 1 + 4 * 510);
        CHECKS.due("count(3)", desk.count(3), 1 + 4 * 510);
    }
}
