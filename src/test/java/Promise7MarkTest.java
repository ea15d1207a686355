public final class Promise7MarkTest {
    public static void main(String[] args) {
        Checks checks = new Checks("Promise 7");
        EventLineDesk desk = new EventLineDesk();
        checks.due("mark(), new", desk.mark(), 0);
        desk.begin(0);
        checks.due("mark(), START open", desk.mark(), -1);
        checks.dueCounts("mark(), START open", desk, 1, 0, 0, 1);
        desk.add(0x20AC);
        desk.end();
        checks.due("mark(), one line", desk.mark(), 5);
        checks.due("mark(), once more", desk.mark(), 5);
        desk.text(97);
        checks.due("mark(), TEXT open", desk.mark(), -1);
        desk.end();
        checks.due("mark(), two lines", desk.mark(), 8);
        desk.take();
        checks.due("mark(), 7 taken", desk.mark(), 8);
        desk.take();
        checks.due("mark(), all taken", desk.mark(), 8);
        desk.begin(3);
        desk.end();
        checks.due("mark(), one more line", desk.mark(), 10);
        desk.back(8);
        checks.due("mark(), gone back", desk.mark(), 8);
        desk.begin(2);
        desk.back(8);
        checks.due("mark(), the open line is gone", desk.mark(), 8);
        checks.finish();
    }
}
