/** Promise 5: '-1, refused, if none is open.' */
public final class Promise5EndBoundaryTest {
    private static final Checks CHECKS = new Checks("Promise 5");

    public static void main(String[] args) {
        CHECKS.test("none open, new", Promise5EndBoundaryTest::newObject);
        CHECKS.test("none open, it has just ended", Promise5EndBoundaryTest::endedBefore);
        CHECKS.test("none open, the open line is gone", Promise5EndBoundaryTest::lineGone);
        CHECKS.test("none open, all taken", Promise5EndBoundaryTest::allTaken);
        CHECKS.test("none open, full", Promise5EndBoundaryTest::noneOpenFull);
        CHECKS.test("none open, begin was refused", Promise5EndBoundaryTest::beginRefused);
        CHECKS.test("none open, text was refused", Promise5EndBoundaryTest::textRefused);
        CHECKS.test("kind 0 is its answer, not a refusal", () -> shortestLine(0));
        CHECKS.test("kinds 1 to 3, the shortest lines", () -> {
            shortestLine(1);
            shortestLine(2);
            shortestLine(3);
        });
        CHECKS.test("kind 4, the shortest TEXT line", Promise5EndBoundaryTest::shortestText);
        CHECKS.test("the last place is always there", Promise5EndBoundaryTest::lastPlace);
        CHECKS.finish();
    }

    private static void newObject() {
        EventLineDesk desk = new EventLineDesk();
        CHECKS.due("end()", desk.end(), -1);
        CHECKS.due("end() once more", desk.end(), -1);
        CHECKS.dueState("end()", desk, 0, 0, -1);
    }

    private static void endedBefore() {
        for (int kind = 0; kind <= 4; kind++) {
            EventLineDesk desk = Desks.open(kind, 2);
            CHECKS.due("end() of kind " + kind, desk.end(), kind);
            CHECKS.due("end() once more", desk.end(), -1);
            CHECKS.dueState("end() behind kind " + kind, desk, 0, 1, -1, Bytes.ended(kind, 3));
        }
    }

    private static void lineGone() {
        EventLineDesk desk = Desks.open(2, 4);
        desk.back(0);
        CHECKS.due("end()", desk.end(), -1);
        CHECKS.dueState("end()", desk, 0, 0, -1);
    }

    private static void allTaken() {
        EventLineDesk desk = Desks.ended(2, 4);
        desk.take();
        CHECKS.due("end()", desk.end(), -1);
        CHECKS.dueState("end()", desk, 4, 1, -1);
    }

    private static void noneOpenFull() {
        EventLineDesk desk = Desks.ended(1, 3000);
        CHECKS.due("end()", desk.end(), -1);
        CHECKS.dueState("end()", desk, 0, 1, -1, Bytes.ended(1, 3000));
    }

    private static void beginRefused() {
        EventLineDesk desk = new EventLineDesk();
        desk.begin(4);
        CHECKS.due("end()", desk.end(), -1);
        CHECKS.dueState("end()", desk, 0, 0, -1);
    }

    private static void textRefused() {
        EventLineDesk desk = new EventLineDesk();
        desk.text(0xD800);
        CHECKS.due("end()", desk.end(), -1);
        CHECKS.dueState("end()", desk, 0, 0, -1);
    }

    private static void shortestLine(int kind) {
        EventLineDesk desk = Desks.open(kind, 1);
        CHECKS.due("end() of kind " + kind, desk.end(), kind);
        CHECKS.dueState("end() of kind " + kind, desk, 0, 1, -1, Bytes.first(kind), 10);
    }

    private static void shortestText() {
        EventLineDesk desk = Desks.open(4, 2);
        CHECKS.due("end()", desk.end(), 4);
        CHECKS.dueState("end()", desk, 0, 1, -1, 45, 97, 10);
    }

    /** 2999 bytes that are not taken are the most with a line open: the byte that ends it has its place. */
    private static void lastPlace() {
        for (int kind = 0; kind <= 4; kind++) {
            EventLineDesk desk = Desks.open(kind, 2999);
            CHECKS.due("one more character", Desks.write(desk, kind, 97), false);
            CHECKS.due("end() of kind " + kind, desk.end(), kind);
            CHECKS.dueState("end() of kind " + kind, desk, 0, 1, -1, Bytes.ended(kind, 3000));
        }
    }
}
