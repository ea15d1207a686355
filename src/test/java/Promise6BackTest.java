public final class Promise6BackTest {
    private static final Checks CHECKS = new Checks("Promise 6");

    public static void main(String[] args) {
        everyMark();
        openLineIsGone();
        takenBytes();
        takenInsideALine();
        writtenAnew();
        CHECKS.finish();
    }

    /** Lines that end at 3, 5 and 9. The character 10 and the byte 110 for it end none. */
    private static EventLineDesk threeLines() {
        EventLineDesk desk = new EventLineDesk();
        desk.begin(0);
        desk.add(97);
        desk.begin(1);
        desk.begin(2);
        desk.add(10);
        desk.end();
        return desk;
    }

    private static void everyMark() {
        int[] linesAt = {0, -1, -1, 1, -1, 2, -1, -1, -1, 3};
        for (int mark = -2; mark <= 12; mark++) {
            EventLineDesk desk = threeLines();
            int lines = mark >= 0 && mark < linesAt.length ? linesAt[mark] : -1;
            CHECKS.due("back(" + mark + ")", desk.back(mark), lines >= 0);
            if (lines >= 0) {
                CHECKS.dueCounts("back(" + mark + ")", desk, mark, lines, -1, 0);
                CHECKS.due("mark() behind back(" + mark + ")", desk.mark(), mark);
            } else {
                CHECKS.dueCounts("back(" + mark + ")", desk, 9, 3, -1, 0);
                CHECKS.due("mark() behind back(" + mark + ")", desk.mark(), 9);
            }
        }
        EventLineDesk desk = threeLines();
        CHECKS.due("back of the least int", desk.back(Integer.MIN_VALUE), false);
        CHECKS.due("back of the greatest int", desk.back(Integer.MAX_VALUE), false);
        CHECKS.dueBytes("refused", desk, 40, 97, 10, 41, 10, 65, 92, 110, 10);
    }

    private static void openLineIsGone() {
        EventLineDesk desk = threeLines();
        desk.text(97);
        desk.text(98);
        CHECKS.due("back(10) into the open line", desk.back(10), false);
        CHECKS.due("back(12) to the end of the open line", desk.back(12), false);
        CHECKS.due("back(13) behind the open line", desk.back(13), false);
        CHECKS.dueCounts("refused", desk, 12, 3, 4, 3);
        CHECKS.due("back(9) to the start of the open line", desk.back(9), true);
        CHECKS.dueCounts("back(9)", desk, 9, 3, -1, 0);
        desk.begin(3);
        CHECKS.due("back(3) with a line open", desk.back(3), true);
        CHECKS.dueCounts("back(3) with a line open", desk, 3, 1, -1, 0);
        desk.begin(3);
        CHECKS.due("back(0) with a line open", desk.back(0), true);
        CHECKS.dueCounts("back(0) with a line open", desk, 0, 0, -1, 0);
        desk.text(97);
        CHECKS.due("back(0) with the first line open", desk.back(0), true);
        CHECKS.dueBytes("all gone", desk);
    }

    private static void takenBytes() {
        EventLineDesk desk = threeLines();
        desk.take();
        CHECKS.due("back(0), 7 taken", desk.back(0), false);
        CHECKS.due("back(5), 7 taken", desk.back(5), false);
        CHECKS.dueCounts("refused", desk, 2, 3, -1, 0);
        CHECKS.due("back(9), 7 taken", desk.back(9), true);
        desk.take();
        CHECKS.due("back(9), all taken", desk.back(9), true);
        CHECKS.due("back(8), all taken", desk.back(8), false);
        CHECKS.due("back(10), all taken", desk.back(10), false);
        desk.begin(0);
        CHECKS.due("back(9), all taken and a line open", desk.back(9), true);
        CHECKS.dueCounts("back(9), all taken", desk, 0, 3, -1, 0);
    }

    /** What is left are the first bytes in all, the taken ones too: they must end with a line. */
    private static void takenInsideALine() {
        EventLineDesk desk = threeLines();
        desk.take();
        CHECKS.due("back(7), 7 taken", desk.back(7), false);
        CHECKS.dueCounts("back(7), 7 taken", desk, 2, 3, -1, 0);
        CHECKS.dueBytes("back(7), 7 taken", desk, 110, 10);
    }

    private static void writtenAnew() {
        EventLineDesk desk = threeLines();
        desk.back(3);
        desk.text(98);
        desk.end();
        CHECKS.due("mark()", desk.mark(), 6);
        CHECKS.due("count(1)", desk.count(1), 2);
        CHECKS.due("back(9), gone before", desk.back(9), false);
        CHECKS.due("back(5), no line ends there now", desk.back(5), false);
        CHECKS.dueBytes("written anew", desk, 40, 97, 10, 45, 98, 10);
    }
}
