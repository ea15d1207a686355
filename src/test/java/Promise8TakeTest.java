public final class Promise8TakeTest {
    private static final Checks CHECKS = new Checks("Promise 8");

    public static void main(String[] args) {
        sizes();
        notOfTheOpenLine();
        highBytes();
        behindBack();
        CHECKS.finish();
    }

    private static void sizes() {
        EventLineDesk desk = new EventLineDesk();
        CHECKS.due("take(), none", desk.take(), 0L);
        desk.begin(0);
        desk.end();
        CHECKS.due("take(), 2 bytes", desk.take(), 0x02280A0000000000L);
        CHECKS.dueCounts("take(), 2 bytes", desk, 0, 1, -1, 0);
        CHECKS.due("take(), none left", desk.take(), 0L);
        lineOf(desk, 5);
        CHECKS.due("take(), 7 bytes", desk.take(), 0x072861626364650AL);
        CHECKS.due("take(), none left", desk.take(), 0L);
        lineOf(desk, 6);
        CHECKS.due("take(), the first 7 of 8 bytes", desk.take(), 0x0728616263646566L);
        CHECKS.dueCounts("take(), the first 7 of 8 bytes", desk, 1, 3, -1, 0);
        CHECKS.due("take(), the last of 8 bytes", desk.take(), 0x010A000000000000L);
        CHECKS.due("take(), none left", desk.take(), 0L);
    }

    private static void lineOf(EventLineDesk desk, int characters) {
        desk.begin(0);
        for (int i = 0; i < characters; i++) {
            desk.add(97 + i);
        }
        desk.end();
    }

    private static void notOfTheOpenLine() {
        EventLineDesk desk = new EventLineDesk();
        desk.text(97);
        CHECKS.due("take(), the first line is open", desk.take(), 0L);
        CHECKS.dueCounts("take(), the first line is open", desk, 2, 0, 4, 2);
        desk.begin(1);
        CHECKS.due("take(), the second line is open", desk.take(), 0x032D610A00000000L);
        CHECKS.dueCounts("take(), the second line is open", desk, 1, 1, 1, 1);
        CHECKS.due("take(), only the open line", desk.take(), 0L);
        desk.add(98);
        CHECKS.due("end()", desk.end(), 1);
        CHECKS.due("take(), the line has ended", desk.take(), 0x0329620A00000000L);
    }

    private static void highBytes() {
        EventLineDesk desk = new EventLineDesk();
        desk.text(0x10FFFF);
        desk.text(0);
        desk.end();
        CHECKS.due("take(), bytes over 127 and 0", desk.take(), 0x072DF48FBFBF000AL);
    }

    private static void behindBack() {
        EventLineDesk desk = new EventLineDesk();
        desk.begin(0);
        desk.begin(1);
        desk.end();
        desk.back(2);
        desk.begin(2);
        desk.end();
        CHECKS.due("take(), a line was gone back behind", desk.take(), 0x04280A410A000000L);
    }
}
