public final class Promise3AddTest {
    private static final Checks CHECKS = new Checks("Promise 3");

    public static void main(String[] args) {
        everyKind();
        charactersAsBytes();
        noLineForIt();
        noCharacter();
        CHECKS.finish();
    }

    private static void everyKind() {
        for (int kind = 0; kind <= 3; kind++) {
            EventLineDesk desk = new EventLineDesk();
            desk.begin(kind);
            CHECKS.due("add(97), kind " + kind, desk.add(97), true);
            CHECKS.dueCounts("add(97), kind " + kind, desk, 2, 0, kind, 2);
        }
    }

    private static void charactersAsBytes() {
        dueLine(0, 0);
        dueLine(1, 1);
        dueLine(8, 8);
        dueLine(9, 92, 116);
        dueLine(10, 92, 110);
        dueLine(11, 11);
        dueLine(12, 12);
        dueLine(13, 92, 114);
        dueLine(14, 14);
        dueLine(40, 40);
        dueLine(91, 91);
        dueLine(92, 92, 92);
        dueLine(93, 93);
        dueLine(110, 110);
        dueLine(0x7F, 0x7F);
        dueLine(0x80, 0xC2, 0x80);
        dueLine(0xE9, 0xC3, 0xA9);
        dueLine(0x7FF, 0xDF, 0xBF);
        dueLine(0x800, 0xE0, 0xA0, 0x80);
        dueLine(0x20AC, 0xE2, 0x82, 0xAC);
        dueLine(0xD7FF, 0xED, 0x9F, 0xBF);
        dueLine(0xE000, 0xEE, 0x80, 0x80);
        dueLine(0xFFFF, 0xEF, 0xBF, 0xBF);
        dueLine(0x10000, 0xF0, 0x90, 0x80, 0x80);
        dueLine(0x1F600, 0xF0, 0x9F, 0x98, 0x80);
        dueLine(0x10FFFF, 0xF4, 0x8F, 0xBF, 0xBF);
    }

    private static void dueLine(int character, int... bytes) {
        EventLineDesk desk = new EventLineDesk();
        desk.begin(2);
        CHECKS.due("add(" + character + ")", desk.add(character), true);
        CHECKS.dueCounts("add(" + character + ")", desk, 1 + bytes.length, 0, 2, 1 + bytes.length);
        desk.end();
        int[] line = new int[bytes.length + 2];
        line[0] = 65;
        System.arraycopy(bytes, 0, line, 1, bytes.length);
        line[line.length - 1] = 10;
        CHECKS.dueBytes("add(" + character + ")", desk, line);
    }

    private static void noLineForIt() {
        EventLineDesk desk = new EventLineDesk();
        CHECKS.due("add(97), none open", desk.add(97), false);
        CHECKS.dueCounts("add(97), none open", desk, 0, 0, -1, 0);
        desk.begin(0);
        desk.end();
        CHECKS.due("add(97), the line has ended", desk.add(97), false);
        CHECKS.dueCounts("add(97), the line has ended", desk, 2, 1, -1, 0);
        desk.text(98);
        CHECKS.due("add(97), TEXT open", desk.add(97), false);
        CHECKS.dueCounts("add(97), TEXT open", desk, 4, 1, 4, 2);
    }

    private static void noCharacter() {
        int[] wrong = {-1, 0xD800, 0xDBFF, 0xDC00, 0xDFFF, 0x110000, Integer.MIN_VALUE, Integer.MAX_VALUE};
        EventLineDesk desk = new EventLineDesk();
        desk.begin(1);
        for (int number : wrong) {
            CHECKS.due("add(" + number + ")", desk.add(number), false);
            CHECKS.dueCounts("add(" + number + ")", desk, 1, 0, 1, 1);
        }
    }
}
