/** Promise 7: '-1, refused, if one is.' */
public final class Promise7MarkBoundaryTest {
    private static final Checks CHECKS = new Checks("Promise 7");

    public static void main(String[] args) {
        CHECKS.test("empty", Promise7MarkBoundaryTest::empty);
        CHECKS.test("a line is open, nothing else", Promise7MarkBoundaryTest::onlyTheOpenLine);
        CHECKS.test("a line is open behind another", Promise7MarkBoundaryTest::openBehindAnother);
        CHECKS.test("a line is open, all else taken", Promise7MarkBoundaryTest::openAndTaken);
        CHECKS.test("just before and just behind the open line", Promise7MarkBoundaryTest::aroundALine);
        CHECKS.test("the open line is gone", Promise7MarkBoundaryTest::lineGone);
        CHECKS.test("a call that opens a line was refused", Promise7MarkBoundaryTest::openingRefused);
        CHECKS.test("some bytes taken", Promise7MarkBoundaryTest::someTaken);
        CHECKS.test("all bytes taken", Promise7MarkBoundaryTest::allTaken);
        CHECKS.test("gone back to 0", Promise7MarkBoundaryTest::goneBack);
        CHECKS.test("full", Promise7MarkBoundaryTest::full);
        CHECKS.test("full but for the end of the open line", Promise7MarkBoundaryTest::fullAndOpen);
        CHECKS.test("more than 3000 bytes in all", Promise7MarkBoundaryTest::beyondTheRoom);
        CHECKS.finish();
    }

    private static void empty() {
        EventLineDesk desk = new EventLineDesk();
        CHECKS.due("mark()", desk.mark(), 0);
        CHECKS.dueState("mark()", desk, 0, 0, -1);
    }

    private static void onlyTheOpenLine() {
        for (int kind = 0; kind <= 4; kind++) {
            int bytes = kind == 4 ? 2 : 1;
            EventLineDesk desk = Desks.open(kind, bytes);
            CHECKS.due("mark(), kind " + kind, desk.mark(), -1);
            CHECKS.dueState("mark(), kind " + kind, desk, 0, 0, kind, Bytes.open(kind, bytes));
        }
    }

    private static void openBehindAnother() {
        EventLineDesk desk = Desks.ended(2, 4);
        desk.begin(0);
        CHECKS.due("mark()", desk.mark(), -1);
        CHECKS.dueState("mark()", desk, 0, 1, 0, Bytes.join(Bytes.ended(2, 4), 40));
    }

    private static void openAndTaken() {
        EventLineDesk desk = Desks.ended(2, 4);
        desk.begin(0);
        desk.take();
        CHECKS.due("mark()", desk.mark(), -1);
        CHECKS.dueState("mark()", desk, 4, 1, 0, 40);
    }

    private static void aroundALine() {
        EventLineDesk desk = Desks.ended(2, 4);
        CHECKS.due("mark(), before it", desk.mark(), 4);
        desk.begin(0);
        CHECKS.due("mark(), open", desk.mark(), -1);
        desk.end();
        CHECKS.due("mark(), behind it", desk.mark(), 6);
        CHECKS.due("mark(), once more", desk.mark(), 6);
        CHECKS.dueState("mark()", desk, 0, 2, -1, Bytes.join(Bytes.ended(2, 4), 40, 10));
    }

    private static void lineGone() {
        EventLineDesk desk = Desks.ended(2, 4);
        desk.text(97);
        desk.back(4);
        CHECKS.due("mark()", desk.mark(), 4);
        CHECKS.dueState("mark()", desk, 0, 1, -1, Bytes.ended(2, 4));
    }

    private static void openingRefused() {
        EventLineDesk desk = Desks.ended(2, 4);
        desk.begin(4);
        desk.text(-1);
        desk.add(97);
        CHECKS.due("mark()", desk.mark(), 4);
    }

    private static void someTaken() {
        EventLineDesk desk = Desks.ended(2, 8);
        desk.take();
        CHECKS.due("mark()", desk.mark(), 8);
        CHECKS.dueState("mark()", desk, 7, 1, -1, 10);
    }

    private static void allTaken() {
        EventLineDesk desk = Desks.ended(2, 7);
        desk.take();
        CHECKS.due("mark()", desk.mark(), 7);
        desk.begin(1);
        desk.end();
        CHECKS.due("mark(), one more line", desk.mark(), 9);
        CHECKS.dueState("mark()", desk, 7, 2, -1, 41, 10);
    }

    private static void goneBack() {
        EventLineDesk desk = Desks.ended(2, 7);
        desk.back(0);
        CHECKS.due("mark()", desk.mark(), 0);
        CHECKS.dueState("mark()", desk, 0, 0, -1);
    }

    private static void full() {
        EventLineDesk desk = Desks.ended(2, 3000);
        CHECKS.due("mark()", desk.mark(), 3000);
        CHECKS.dueState("mark()", desk, 0, 1, -1, Bytes.ended(2, 3000));
    }

    private static void fullAndOpen() {
        EventLineDesk desk = Desks.open(2, 2999);
        CHECKS.due("mark()", desk.mark(), -1);
        CHECKS.dueState("mark()", desk, 0, 0, 2, Bytes.open(2, 2999));
    }

    private static void beyondTheRoom() {
        EventLineDesk desk = Desks.ended(2, 3000);
        desk.take();
        Desks.line(desk, 0, 6);
        desk.end();
        CHECKS.due("mark()", desk.mark(), 3007);
        CHECKS.due("count(0)", desk.count(0), 3000);
    }
}
