/** Promise 3: 'false if none is open, it is none, or there is no room.' */
public final class Promise3AddBoundaryTest {
    private static final Checks CHECKS = new Checks("Promise 3");

    public static void main(String[] args) {
        noLine();
        characters();
        sizes();
        room();
        CHECKS.finish();
    }

    private static void noLine() {
        CHECKS.test("none open, new", Promise3AddBoundaryTest::newObject);
        CHECKS.test("none open, the line has ended", Promise3AddBoundaryTest::lineEnded);
        CHECKS.test("none open, the line is gone", Promise3AddBoundaryTest::lineGone);
        CHECKS.test("none open, full", Promise3AddBoundaryTest::noneOpenFull);
        CHECKS.test("a TEXT line is open", Promise3AddBoundaryTest::textOpen);
        CHECKS.test("a TEXT line is open behind another", Promise3AddBoundaryTest::textBehindAnother);
    }

    private static void characters() {
        CHECKS.test("0, the least character", () -> inside(0, 0));
        CHECKS.test("-1, just below it", () -> outside(-1));
        CHECKS.test("D7FF, the last before the gap", () -> inside(0xD7FF, 0xED, 0x9F, 0xBF));
        CHECKS.test("D800, the first in the gap", () -> outside(0xD800));
        CHECKS.test("DBFF and DC00, in the gap", () -> {
            outside(0xDBFF);
            outside(0xDC00);
        });
        CHECKS.test("DFFF, the last in the gap", () -> outside(0xDFFF));
        CHECKS.test("E000, the first behind the gap", () -> inside(0xE000, 0xEE, 0x80, 0x80));
        CHECKS.test("10FFFF, the greatest character", () -> inside(0x10FFFF, 0xF4, 0x8F, 0xBF, 0xBF));
        CHECKS.test("110000, just above it", () -> outside(0x110000));
        CHECKS.test("the least int", () -> outside(Integer.MIN_VALUE));
        CHECKS.test("the greatest int", () -> outside(Integer.MAX_VALUE));
        CHECKS.test("numbers with 97 in their low bits", () -> {
            outside(97 - 256);
            outside(97 - (1 << 16));
            outside(97 + (1 << 21));
            outside(97 + Integer.MIN_VALUE);
        });
    }

    private static void sizes() {
        CHECKS.test("7F, the last of one byte", () -> inside(0x7F, 0x7F));
        CHECKS.test("80, the first of two bytes", () -> inside(0x80, 0xC2, 0x80));
        CHECKS.test("7FF, the last of two bytes", () -> inside(0x7FF, 0xDF, 0xBF));
        CHECKS.test("800, the first of three bytes", () -> inside(0x800, 0xE0, 0xA0, 0x80));
        CHECKS.test("FFFF, the last of three bytes", () -> inside(0xFFFF, 0xEF, 0xBF, 0xBF));
        CHECKS.test("10000, the first of four bytes", () -> inside(0x10000, 0xF0, 0x90, 0x80, 0x80));
        CHECKS.test("12345 and 1F600, every byte another", () -> {
            inside(0x12345, 0xF0, 0x92, 0x8D, 0x85);
            inside(0x1F600, 0xF0, 0x9F, 0x98, 0x80);
        });
        CHECKS.test("9 and 10, and those beside them", () -> {
            inside(8, 8);
            inside(9, 92, 116);
            inside(10, 92, 110);
            inside(11, 11);
        });
        CHECKS.test("13, and those beside it", () -> {
            inside(12, 12);
            inside(13, 92, 114);
            inside(14, 14);
        });
        CHECKS.test("92, and those beside it", () -> {
            inside(91, 91);
            inside(92, 92, 92);
            inside(93, 93);
        });
        CHECKS.test("110, 116 and 114 stand for themselves", () -> {
            inside(110, 110);
            inside(116, 116);
            inside(114, 114);
        });
        CHECKS.test("266, 265, 269 and 348 have the low bits of 10, 9, 13 and 92", () -> {
            inside(266, 0xC4, 0x8A);
            inside(265, 0xC4, 0x89);
            inside(269, 0xC4, 0x8D);
            inside(348, 0xC5, 0x9C);
        });
    }

    private static void room() {
        CHECKS.test("room, one byte", () -> {
            atTheEdge(0, 0);
            atTheEdge(0x7F, 0x7F);
        });
        CHECKS.test("room, two bytes, written otherwise", () -> {
            atTheEdge(92, 92, 92);
            atTheEdge(10, 92, 110);
            atTheEdge(9, 92, 116);
            atTheEdge(13, 92, 114);
        });
        CHECKS.test("room, two bytes", () -> {
            atTheEdge(0x80, 0xC2, 0x80);
            atTheEdge(0x7FF, 0xDF, 0xBF);
        });
        CHECKS.test("room, three bytes", () -> {
            atTheEdge(0x800, 0xE0, 0xA0, 0x80);
            atTheEdge(0xFFFF, 0xEF, 0xBF, 0xBF);
        });
        CHECKS.test("room, four bytes", () -> {
            atTheEdge(0x10000, 0xF0, 0x90, 0x80, 0x80);
            atTheEdge(0x10FFFF, 0xF4, 0x8F, 0xBF, 0xBF);
        });
        CHECKS.test("room, full", Promise3AddBoundaryTest::full);
        CHECKS.test("room, too few bytes for one character, enough for another", Promise3AddBoundaryTest::smallerFits);
        CHECKS.test("no character and no room", Promise3AddBoundaryTest::neitherCharacterNorRoom);
        CHECKS.test("room again, bytes taken", Promise3AddBoundaryTest::takenBytes);
        CHECKS.test("room again, gone back", Promise3AddBoundaryTest::goneBack);
        CHECKS.test("never short of room in 512 calls", Promise3AddBoundaryTest::longestLine);
    }

    private static void newObject() {
        EventLineDesk desk = new EventLineDesk();
        CHECKS.due("add(97)", desk.add(97), false);
        CHECKS.dueState("add(97)", desk, 0, 0, -1);
    }

    private static void lineEnded() {
        for (int kind = 0; kind <= 4; kind++) {
            EventLineDesk desk = Desks.ended(kind, 3);
            CHECKS.due("add(97), kind " + kind, desk.add(97), false);
            CHECKS.dueState("add(97), kind " + kind, desk, 0, 1, -1, Bytes.ended(kind, 3));
        }
    }

    private static void lineGone() {
        EventLineDesk desk = Desks.ended(0, 3);
        desk.begin(1);
        desk.back(3);
        CHECKS.due("add(97)", desk.add(97), false);
        CHECKS.dueState("add(97)", desk, 0, 1, -1, Bytes.ended(0, 3));
    }

    private static void noneOpenFull() {
        EventLineDesk desk = Desks.ended(0, 3000);
        CHECKS.due("add(97)", desk.add(97), false);
        CHECKS.dueState("add(97)", desk, 0, 1, -1, Bytes.ended(0, 3000));
    }

    private static void textOpen() {
        EventLineDesk desk = Desks.open(Desks.TEXT, 2);
        CHECKS.due("add(98)", desk.add(98), false);
        CHECKS.dueState("add(98)", desk, 0, 0, 4, 45, 97);
    }

    private static void textBehindAnother() {
        EventLineDesk desk = Desks.open(2, 2);
        desk.text(97);
        CHECKS.due("add(98)", desk.add(98), false);
        CHECKS.dueState("add(98)", desk, 0, 1, 4, 65, 97, 10, 45, 97);
    }

    private static void inside(int character, int... bytes) {
        for (int kind = 0; kind <= 3; kind++) {
            EventLineDesk desk = Desks.open(kind, 2);
            String call = "add(" + character + "), kind " + kind;
            CHECKS.due(call, desk.add(character), true);
            CHECKS.dueState(call, desk, 0, 0, kind, Bytes.join(Bytes.open(kind, 2), bytes));
        }
    }

    private static void outside(int number) {
        for (int kind = 0; kind <= 3; kind++) {
            EventLineDesk desk = Desks.open(kind, 2);
            String call = "add(" + number + "), kind " + kind;
            CHECKS.due(call, desk.add(number), false);
            CHECKS.dueState(call, desk, 0, 0, kind, Bytes.open(kind, 2));
        }
    }

    /** With just the room, and with a byte too few. */
    private static void atTheEdge(int character, int... bytes) {
        for (int kind = 0; kind <= 3; kind++) {
            String call = "add(" + character + "), kind " + kind;
            int most = 2999 - bytes.length;
            EventLineDesk desk = Desks.open(kind, most);
            CHECKS.due(call + ", just the room", desk.add(character), true);
            CHECKS.dueState(call + ", just the room", desk, 0, 0, kind, Bytes.join(Bytes.open(kind, most), bytes));
            desk = Desks.open(kind, most + 1);
            CHECKS.due(call + ", a byte too few", desk.add(character), false);
            CHECKS.dueState(call + ", a byte too few", desk, 0, 0, kind, Bytes.open(kind, most + 1));
        }
    }

    private static void full() {
        EventLineDesk desk = Desks.open(3, 2999);
        CHECKS.due("add(0)", desk.add(0), false);
        CHECKS.due("add(97)", desk.add(97), false);
        CHECKS.dueState("add", desk, 0, 0, 3, Bytes.open(3, 2999));
    }

    private static void smallerFits() {
        EventLineDesk desk = Desks.open(3, 2997);
        CHECKS.due("add(65536)", desk.add(0x10000), false);
        CHECKS.due("add(2048)", desk.add(0x800), false);
        CHECKS.due("add(128)", desk.add(0x80), true);
        CHECKS.due("add(0)", desk.add(0), false);
        CHECKS.dueState("add(128)", desk, 0, 0, 3, Bytes.join(Bytes.open(3, 2997), 0xC2, 0x80));
    }

    private static void neitherCharacterNorRoom() {
        EventLineDesk desk = Desks.open(3, 2999);
        CHECKS.due("add(-1)", desk.add(-1), false);
        CHECKS.due("add(55296)", desk.add(0xD800), false);
        CHECKS.due("add(1114112)", desk.add(0x110000), false);
        CHECKS.dueState("add", desk, 0, 0, 3, Bytes.open(3, 2999));
    }

    /** Two bytes are taken: room for a character of two, not for one more. */
    private static void takenBytes() {
        EventLineDesk desk = Desks.ended(0, 2);
        Desks.line(desk, 1, 2997);
        CHECKS.due("add(97), full", desk.add(97), false);
        CHECKS.due("take()", desk.take(), 0x02280A0000000000L);
        CHECKS.due("add(2048), 2 taken", desk.add(0x800), false);
        CHECKS.due("add(92), 2 taken", desk.add(92), true);
        CHECKS.due("add(97), full again", desk.add(97), false);
        CHECKS.dueState("full again", desk, 2, 1, 1, Bytes.join(Bytes.open(1, 2997), 92, 92));
    }

    private static void goneBack() {
        EventLineDesk desk = Desks.ended(0, 2996);
        Desks.line(desk, 1, 3);
        CHECKS.due("add(97), full", desk.add(97), false);
        CHECKS.due("back(2996)", desk.back(2996), true);
        CHECKS.due("begin(1)", desk.begin(1), true);
        CHECKS.due("add(128)", desk.add(0x80), true);
        CHECKS.due("add(97), full again", desk.add(97), false);
        int[] all = Bytes.join(Bytes.ended(0, 2996), 41, 0xC2, 0x80);
        CHECKS.dueState("full again", desk, 0, 1, 1, all);
    }

    private static void longestLine() {
        EventLineDesk desk = new EventLineDesk();
        desk.begin(0);
        for (int i = 0; i < 509; i++) {
            CHECKS.due("add(1114111), call " + i, desk.add(0x10FFFF), true);
        }
        CHECKS.due("count(0)", desk.count(0), 1 + 4 * 509);
        CHECKS.due("count(3)", desk.count(3), 1 + 4 * 509);
    }
}
