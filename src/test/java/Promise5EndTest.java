public final class Promise5EndTest {
    public static void main(String[] args) {
        Checks checks = new Checks("Promise 5");
        for (int kind = 0; kind <= 3; kind++) {
            EventLineDesk desk = new EventLineDesk();
            desk.begin(kind);
            checks.due("end() of kind " + kind, desk.end(), kind);
            checks.dueCounts("end() of kind " + kind, desk, 2, 1, -1, 0);
            checks.due("end() once more", desk.end(), -1);
            checks.dueCounts("end() once more", desk, 2, 1, -1, 0);
        }

        EventLineDesk desk = new EventLineDesk();
        checks.due("end(), none open", desk.end(), -1);
        checks.dueCounts("end(), none open", desk, 0, 0, -1, 0);
        desk.begin(1);
        desk.text(97);
        checks.due("end() of TEXT", desk.end(), 4);
        checks.dueCounts("end() of TEXT", desk, 5, 2, -1, 0);
        checks.dueBytes("lines ended", desk, 41, 10, 45, 97, 10);
        desk.text(98);
        desk.back(5);
        checks.due("end(), the open line is gone", desk.end(), -1);
        checks.finish();
    }
}
