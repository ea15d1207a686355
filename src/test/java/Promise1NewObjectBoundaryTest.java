/** Promise 1: 'No bytes, no line is open.' */
public final class Promise1NewObjectBoundaryTest {
    private static final Checks CHECKS = new Checks("Promise 1");

    public static void main(String[] args) {
        CHECKS.test("no bytes to count", Promise1NewObjectBoundaryTest::noBytes);
        CHECKS.test("no bytes to take", Promise1NewObjectBoundaryTest::nothingToTake);
        CHECKS.test("no line to end", Promise1NewObjectBoundaryTest::nothingToEnd);
        CHECKS.test("no line to add to", Promise1NewObjectBoundaryTest::nothingToAddTo);
        CHECKS.test("no bytes to go back behind", Promise1NewObjectBoundaryTest::nothingBehindMark);
        CHECKS.test("every refused call leaves it new", Promise1NewObjectBoundaryTest::refusedCalls);
        CHECKS.test("room for all of 3000 bytes", Promise1NewObjectBoundaryTest::roomForAll);
        CHECKS.test("made beside a full one", Promise1NewObjectBoundaryTest::besideAFullOne);
        CHECKS.finish();
    }

    private static void noBytes() {
        CHECKS.dueState("new", new EventLineDesk(), 0, 0, -1);
    }

    private static void nothingToTake() {
        EventLineDesk desk = new EventLineDesk();
        CHECKS.due("take()", desk.take(), 0L);
        CHECKS.dueState("take()", desk, 0, 0, -1);
    }

    private static void nothingToEnd() {
        EventLineDesk desk = new EventLineDesk();
        CHECKS.due("end()", desk.end(), -1);
        CHECKS.dueState("end()", desk, 0, 0, -1);
    }

    private static void nothingToAddTo() {
        EventLineDesk desk = new EventLineDesk();
        CHECKS.due("add(97)", desk.add(97), false);
        CHECKS.dueState("add(97)", desk, 0, 0, -1);
    }

    private static void nothingBehindMark() {
        EventLineDesk desk = new EventLineDesk();
        CHECKS.due("mark()", desk.mark(), 0);
        CHECKS.due("back(-1)", desk.back(-1), false);
        CHECKS.due("back(0)", desk.back(0), true);
        CHECKS.due("back(1)", desk.back(1), false);
        CHECKS.dueState("back", desk, 0, 0, -1);
    }

    private static void refusedCalls() {
        EventLineDesk desk = new EventLineDesk();
        CHECKS.due("begin(-1)", desk.begin(-1), false);
        CHECKS.due("begin(4)", desk.begin(4), false);
        CHECKS.due("add(0)", desk.add(0), false);
        CHECKS.due("text(-1)", desk.text(-1), false);
        CHECKS.due("text(1114112)", desk.text(0x110000), false);
        CHECKS.due("end()", desk.end(), -1);
        CHECKS.due("back(1)", desk.back(1), false);
        CHECKS.due("take()", desk.take(), 0L);
        CHECKS.due("count(4)", desk.count(4), -1);
        CHECKS.dueState("all refused", desk, 0, 0, -1);
    }

    private static void roomForAll() {
        EventLineDesk desk = Desks.ended(Desks.TEXT, 3000);
        CHECKS.dueState("3000 bytes", desk, 0, 1, -1, Bytes.ended(Desks.TEXT, 3000));
    }

    private static void besideAFullOne() {
        EventLineDesk before = new EventLineDesk();
        EventLineDesk full = Desks.open(0, 2999);
        CHECKS.dueState("made before", before, 0, 0, -1);
        CHECKS.dueState("made behind", new EventLineDesk(), 0, 0, -1);
        EventLineDesk other = Desks.ended(1, 5);
        other.take();
        other.back(5);
        CHECKS.dueState("the full one", full, 0, 0, 0, Bytes.open(0, 2999));
    }
}
