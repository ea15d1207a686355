public final class Promise1NewObjectTest {
    public static void main(String[] args) {
        Checks checks = new Checks("Promise 1");
        EventLineDesk desk = new EventLineDesk();
        checks.dueCounts("new", desk, 0, 0, -1, 0);
        checks.due("mark()", desk.mark(), 0);
        checks.due("take()", desk.take(), 0L);
        checks.due("end()", desk.end(), -1);
        checks.due("add(97)", desk.add(97), false);
        checks.due("back(0)", desk.back(0), true);
        checks.due("back(1)", desk.back(1), false);

        EventLineDesk other = new EventLineDesk();
        desk.begin(0);
        desk.end();
        desk.take();
        checks.dueCounts("another object was used", other, 0, 0, -1, 0);
        checks.due("mark() of the other", other.mark(), 0);
        checks.dueCounts("made after another was used", new EventLineDesk(), 0, 0, -1, 0);
        checks.finish();
    }
}
