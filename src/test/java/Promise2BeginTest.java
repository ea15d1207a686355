public final class Promise2BeginTest {
    private static final Checks CHECKS = new Checks("Promise 2");

    public static void main(String[] args) {
        firstBytes();
        openLineEnds();
        noSuchKind();
        CHECKS.finish();
    }

    private static void firstBytes() {
        int[] first = {40, 41, 65, 63};
        for (int kind = 0; kind <= 3; kind++) {
            EventLineDesk desk = new EventLineDesk();
            CHECKS.due("begin(" + kind + ")", desk.begin(kind), true);
            CHECKS.dueCounts("begin(" + kind + ")", desk, 1, 0, kind, 1);
            desk.end();
            CHECKS.dueBytes("kind " + kind, desk, first[kind], 10);
        }
    }

    private static void openLineEnds() {
        EventLineDesk desk = new EventLineDesk();
        desk.begin(0);
        desk.add(97);
        CHECKS.due("begin(0) behind 0", desk.begin(0), true);
        CHECKS.dueCounts("begin(0) behind 0", desk, 4, 1, 0, 1);
        CHECKS.due("begin(3) behind 0", desk.begin(3), true);
        CHECKS.dueCounts("begin(3) behind 0", desk, 6, 2, 3, 1);
        desk.text(98);
        CHECKS.due("begin(2) behind TEXT", desk.begin(2), true);
        CHECKS.dueCounts("begin(2) behind TEXT", desk, 11, 4, 2, 1);
        desk.end();
        CHECKS.dueBytes("lines begun", desk, 40, 97, 10, 40, 10, 63, 10, 45, 98, 10, 65, 10);
    }

    private static void noSuchKind() {
        int[] wrong = {-1, 4, 5, 40, Integer.MIN_VALUE, Integer.MAX_VALUE};
        for (int kind : wrong) {
            EventLineDesk desk = new EventLineDesk();
            CHECKS.due("begin(" + kind + ")", desk.begin(kind), false);
            CHECKS.dueCounts("begin(" + kind + ")", desk, 0, 0, -1, 0);
            desk.begin(1);
            CHECKS.due("begin(" + kind + ") with a line open", desk.begin(kind), false);
            CHECKS.dueCounts("begin(" + kind + ") with a line open", desk, 1, 0, 1, 1);
        }
    }
}
