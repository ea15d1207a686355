/**
 * Promise 6: 'false, if less than that are there, or more were taken, or what is left neither ends
 * with a line nor is empty.'
 */
public final class Promise6BackBoundaryTest {
    private static final Checks CHECKS = new Checks("Promise 6");
    private static final int[] LINES = {40, 97, 10, 41, 10, 65, 92, 110, 10};

    public static void main(String[] args) {
        there();
        taken();
        left();
        full();
        CHECKS.finish();
    }

    private static void there() {
        CHECKS.test("empty, to 0", () -> refusedOrNot(new EventLineDesk(), 0, true));
        CHECKS.test("empty, to 1", () -> refusedOrNot(new EventLineDesk(), 1, false));
        CHECKS.test("below 0", () -> leavesLines(-1));
        CHECKS.test("just as many are there", () -> goesTo(9, 3));
        CHECKS.test("one less is there", () -> leavesLines(10));
        CHECKS.test("one less is there, behind the open line", Promise6BackBoundaryTest::behindTheOpenLine);
        CHECKS.test("there once, but gone", Promise6BackBoundaryTest::goneBefore);
        CHECKS.test("the least int", () -> leavesLines(Integer.MIN_VALUE));
        CHECKS.test("the greatest int", () -> leavesLines(Integer.MAX_VALUE));
        CHECKS.test("numbers with 3 in their low bits", () -> {
            int[] marks = {3 + 256, 3 - 256, 3 + 4096, 3 - 4096, 3 + (1 << 16), 3 - (1 << 16), 3 + Integer.MIN_VALUE};
            for (int mark : marks) {
                leavesLines(mark);
            }
        });
    }

    private static void taken() {
        CHECKS.test("just as many taken, none left", Promise6BackBoundaryTest::allTaken);
        CHECKS.test("just as many taken, lines behind", Promise6BackBoundaryTest::oneLineTaken);
        CHECKS.test("just as many taken, the open line behind", Promise6BackBoundaryTest::takenBeforeTheOpenLine);
        CHECKS.test("more taken, to the end of a taken line", Promise6BackBoundaryTest::toATakenLine);
        CHECKS.test("more taken, to 0", Promise6BackBoundaryTest::toNothing);
        CHECKS.test("just as many taken, inside a line", Promise6BackBoundaryTest::takenInsideALine);
        CHECKS.test("taken inside a line, to its end", Promise6BackBoundaryTest::toTheEndOfALineTakenInPart);
    }

    private static void left() {
        CHECKS.test("empty, lines are gone", () -> goesTo(0, 0));
        CHECKS.test("the end of the first line", () -> goesTo(3, 1));
        CHECKS.test("a byte before it", () -> leavesLines(2));
        CHECKS.test("a byte behind it", () -> leavesLines(4));
        CHECKS.test("behind the first byte of all", () -> leavesLines(1));
        CHECKS.test("the end of the shortest line", () -> goesTo(5, 2));
        CHECKS.test("inside the character 10", () -> leavesLines(7));
        CHECKS.test("behind the character 10", () -> leavesLines(8));
        CHECKS.test("to the start of the open line", Promise6BackBoundaryTest::startOfTheOpenLine);
        CHECKS.test("into the open line", Promise6BackBoundaryTest::intoTheOpenLine);
        CHECKS.test("to the start of the open line, the first of all", Promise6BackBoundaryTest::onlyTheOpenLine);
        CHECKS.test("mark() answers a mark to go back to", Promise6BackBoundaryTest::toEachMark);
        CHECKS.test("another line stands where one had ended", Promise6BackBoundaryTest::writtenAnew);
    }

    private static void full() {
        CHECKS.test("full, to its end", Promise6BackBoundaryTest::fullToItsEnd);
        CHECKS.test("full, to 0", Promise6BackBoundaryTest::fullToNothing);
        CHECKS.test("full, a line open, to 0", Promise6BackBoundaryTest::fullAndOpen);
        CHECKS.test("full behind the bytes taken", Promise6BackBoundaryTest::fullBehindTakenBytes);
        CHECKS.test("beyond 3000 bytes in all", Promise6BackBoundaryTest::manyBytesTaken);
    }

    /** Lines that end at 3, 5 and 9. The character 10 and the byte 110 for it end none. */
    private static EventLineDesk lines() {
        EventLineDesk desk = Desks.ended(0, 3);
        desk.begin(1);
        desk.begin(2);
        desk.add(10);
        desk.end();
        return desk;
    }

    private static int[] from(int start, int end) {
        return java.util.Arrays.copyOfRange(LINES, start, end);
    }

    private static void refusedOrNot(EventLineDesk desk, int mark, boolean want) {
        CHECKS.due("back(" + mark + ")", desk.back(mark), want);
        CHECKS.dueState("back(" + mark + ")", desk, 0, 0, -1);
    }

    private static void goesTo(int mark, int linesLeft) {
        EventLineDesk desk = lines();
        CHECKS.due("back(" + mark + ")", desk.back(mark), true);
        CHECKS.dueState("back(" + mark + ")", desk, 0, linesLeft, -1, from(0, mark));
        desk = lines();
        desk.text(98);
        CHECKS.due("back(" + mark + "), TEXT open", desk.back(mark), true);
        CHECKS.dueState("back(" + mark + "), TEXT open", desk, 0, linesLeft, -1, from(0, mark));
    }

    private static void leavesLines(int mark) {
        EventLineDesk desk = lines();
        CHECKS.due("back(" + mark + ")", desk.back(mark), false);
        CHECKS.dueState("back(" + mark + ")", desk, 0, 3, -1, LINES);
        desk = lines();
        desk.text(98);
        CHECKS.due("back(" + mark + "), TEXT open", desk.back(mark), false);
        CHECKS.dueState("back(" + mark + "), TEXT open", desk, 0, 3, 4, Bytes.join(LINES, 45, 98));
    }

    private static void behindTheOpenLine() {
        EventLineDesk desk = lines();
        desk.text(98);
        CHECKS.due("back(12)", desk.back(12), false);
        CHECKS.dueState("back(12)", desk, 0, 3, 4, Bytes.join(LINES, 45, 98));
    }

    private static void goneBefore() {
        EventLineDesk desk = lines();
        desk.back(5);
        CHECKS.due("back(9)", desk.back(9), false);
        CHECKS.dueState("back(9)", desk, 0, 2, -1, from(0, 5));
    }

    private static void allTaken() {
        EventLineDesk desk = lines();
        desk.take();
        desk.take();
        CHECKS.due("back(8)", desk.back(8), false);
        CHECKS.due("back(10)", desk.back(10), false);
        CHECKS.due("back(9)", desk.back(9), true);
        CHECKS.dueState("back(9)", desk, 9, 3, -1);
    }

    private static void oneLineTaken() {
        EventLineDesk desk = Desks.ended(0, 3);
        desk.take();
        desk.begin(1);
        desk.begin(2);
        desk.end();
        CHECKS.due("back(2)", desk.back(2), false);
        CHECKS.due("back(3)", desk.back(3), true);
        CHECKS.dueState("back(3)", desk, 3, 1, -1);
    }

    private static void takenBeforeTheOpenLine() {
        EventLineDesk desk = Desks.ended(0, 3);
        desk.begin(1);
        desk.take();
        CHECKS.due("back(3)", desk.back(3), true);
        CHECKS.dueState("back(3)", desk, 3, 1, -1);
    }

    private static void toATakenLine() {
        EventLineDesk desk = lines();
        desk.take();
        CHECKS.due("back(5)", desk.back(5), false);
        CHECKS.due("back(3)", desk.back(3), false);
        CHECKS.dueState("back(5)", desk, 7, 3, -1, from(7, 9));
        desk = Desks.ended(0, 3);
        desk.begin(1);
        desk.end();
        desk.take();
        desk.text(98);
        CHECKS.due("back(3), 5 taken", desk.back(3), false);
        CHECKS.dueState("back(3), 5 taken", desk, 5, 2, 4, 45, 98);
    }

    private static void toNothing() {
        EventLineDesk desk = Desks.ended(0, 2);
        desk.take();
        CHECKS.due("back(0), all taken", desk.back(0), false);
        CHECKS.dueState("back(0), all taken", desk, 2, 1, -1);
        desk = lines();
        desk.take();
        CHECKS.due("back(0), 7 taken", desk.back(0), false);
        CHECKS.dueState("back(0), 7 taken", desk, 7, 3, -1, from(7, 9));
    }

    /** What is left are the first bytes in all, the taken ones too: they must end with a line. */
    private static void takenInsideALine() {
        EventLineDesk desk = lines();
        desk.take();
        CHECKS.due("back(7)", desk.back(7), false);
        CHECKS.dueState("back(7)", desk, 7, 3, -1, from(7, 9));
    }

    private static void toTheEndOfALineTakenInPart() {
        EventLineDesk desk = lines();
        desk.take();
        desk.begin(0);
        desk.end();
        CHECKS.due("back(9)", desk.back(9), true);
        CHECKS.dueState("back(9)", desk, 7, 3, -1, from(7, 9));
    }

    private static void startOfTheOpenLine() {
        for (int kind = 0; kind <= 4; kind++) {
            EventLineDesk desk = lines();
            Desks.line(desk, kind, 2);
            CHECKS.due("back(9), kind " + kind + " open", desk.back(9), true);
            CHECKS.dueState("back(9), kind " + kind + " open", desk, 0, 3, -1, LINES);
        }
    }

    private static void intoTheOpenLine() {
        for (int kind = 0; kind <= 4; kind++) {
            EventLineDesk desk = lines();
            Desks.line(desk, kind, 3);
            CHECKS.due("back(10), behind its first byte", desk.back(10), false);
            CHECKS.due("back(12), to its last byte", desk.back(12), false);
            int[] all = Bytes.join(LINES, Bytes.open(kind, 3));
            CHECKS.dueState("back, kind " + kind + " open", desk, 0, 3, kind, all);
        }
    }

    private static void onlyTheOpenLine() {
        EventLineDesk desk = Desks.open(4, 3);
        CHECKS.due("back(1)", desk.back(1), false);
        CHECKS.due("back(3)", desk.back(3), false);
        CHECKS.due("back(0)", desk.back(0), true);
        CHECKS.dueState("back(0)", desk, 0, 0, -1);
    }

    private static void toEachMark() {
        EventLineDesk desk = new EventLineDesk();
        int[] marks = new int[6];
        for (int i = 0; i < marks.length; i++) {
            marks[i] = desk.mark();
            Desks.line(desk, i % 5, i + 2);
            desk.end();
        }
        for (int i = marks.length - 1; i >= 0; i--) {
            CHECKS.due("back to mark " + i, desk.back(marks[i]), true);
            CHECKS.dueCounts("back to mark " + i, desk, marks[i], i, -1, 0);
        }
    }

    private static void writtenAnew() {
        EventLineDesk desk = lines();
        desk.back(3);
        Desks.line(desk, 4, 2);
        CHECKS.due("back(5)", desk.back(5), false);
        desk.end();
        CHECKS.due("back(5), it has ended at 6", desk.back(5), false);
        CHECKS.due("back(6)", desk.back(6), true);
        CHECKS.dueState("back(6)", desk, 0, 2, -1, 40, 97, 10, 45, 97, 10);
    }

    private static void fullToItsEnd() {
        EventLineDesk desk = Desks.ended(0, 3000);
        CHECKS.due("back(3001)", desk.back(3001), false);
        CHECKS.due("back(2999)", desk.back(2999), false);
        CHECKS.due("back(3000)", desk.back(3000), true);
        CHECKS.dueState("back(3000)", desk, 0, 1, -1, Bytes.ended(0, 3000));
    }

    private static void fullToNothing() {
        EventLineDesk desk = Desks.ended(0, 3000);
        CHECKS.due("back(0)", desk.back(0), true);
        CHECKS.dueCounts("back(0)", desk, 0, 0, -1, 0);
        Desks.line(desk, 1, 2999);
        CHECKS.dueState("full again", desk, 0, 0, 1, Bytes.open(1, 2999));
    }

    private static void fullAndOpen() {
        EventLineDesk desk = Desks.open(0, 2999);
        CHECKS.due("back(2999)", desk.back(2999), false);
        CHECKS.due("back(0)", desk.back(0), true);
        CHECKS.dueState("back(0)", desk, 0, 0, -1);
    }

    /** The byte taken last must be known even when 3000 bytes stand behind it. */
    private static void fullBehindTakenBytes() {
        for (int bytes = 6; bytes <= 8; bytes++) {
            EventLineDesk desk = Desks.ended(4, bytes);
            desk.take();
            int takenBytes = Math.min(7, bytes);
            int rest = bytes - takenBytes;
            Desks.line(desk, 0, 2999 - rest);
            desk.end();
            CHECKS.due("count(0), line of " + bytes, desk.count(0), 3000);
            CHECKS.due("back(" + takenBytes + "), line of " + bytes, desk.back(takenBytes), rest == 0);
            CHECKS.due("back(" + bytes + "), line of " + bytes, desk.back(bytes), true);
            CHECKS.dueCounts("back, line of " + bytes, desk, rest, 1, -1, 0);
        }
    }

    private static void manyBytesTaken() {
        EventLineDesk desk = new EventLineDesk();
        for (int i = 0; i < 2000; i++) {
            Desks.line(desk, i % 5, 3);
            desk.end();
            CHECKS.due("take()", desk.take(), Bytes.piece(Bytes.ended(i % 5, 4), 0));
            Desks.line(desk, 1, 2);
            desk.end();
            CHECKS.due("back, a byte too few", desk.back(4 * i + 3), false);
            CHECKS.due("back, a byte too many", desk.back(4 * i + 5), false);
            CHECKS.due("back", desk.back(4 * i + 4), true);
        }
        CHECKS.dueState("8000 bytes taken", desk, 8000, 2000, -1);
    }
}
