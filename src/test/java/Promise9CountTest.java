public final class Promise9CountTest {
    public static void main(String[] args) {
        Checks checks = new Checks("Promise 9");
        EventLineDesk desk = new EventLineDesk();
        checks.dueCounts("new", desk, 0, 0, -1, 0);
        for (int kind = 0; kind <= 3; kind++) {
            desk.begin(kind);
            checks.dueCounts("begin(" + kind + ")", desk, 1 + 2 * kind, kind, kind, 1);
        }
        desk.text(92);
        checks.dueCounts("text(92)", desk, 11, 4, 4, 3);
        desk.text(0x10000);
        checks.dueCounts("text(65536)", desk, 15, 4, 4, 7);
        desk.take();
        checks.dueCounts("7 taken", desk, 8, 4, 4, 7);
        desk.take();
        checks.dueCounts("8 taken", desk, 7, 4, 4, 7);
        desk.end();
        checks.dueCounts("end()", desk, 8, 5, -1, 0);
        desk.begin(0);
        checks.dueCounts("begin(0)", desk, 9, 5, 0, 1);
        desk.back(8);
        checks.dueCounts("back(8)", desk, 0, 4, -1, 0);

        int[] wrong = {-1, 4, 5, Integer.MIN_VALUE, Integer.MAX_VALUE};
        for (int what : wrong) {
            checks.due("count(" + what + ")", desk.count(what), -1);
        }
        checks.finish();
    }
}
