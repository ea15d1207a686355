public final class Promise4TextTest {
    private static final Checks CHECKS = new Checks("Promise 4");

    public static void main(String[] args) {
        charactersThatStandTogether();
        anotherLineEnds();
        charactersAsBytes();
        noCharacter();
        CHECKS.finish();
    }

    private static void charactersThatStandTogether() {
        EventLineDesk desk = new EventLineDesk();
        CHECKS.due("text(97)", desk.text(97), true);
        CHECKS.dueCounts("text(97)", desk, 2, 0, 4, 2);
        CHECKS.due("text(10)", desk.text(10), true);
        CHECKS.dueCounts("text(10)", desk, 4, 0, 4, 4);
        desk.end();
        CHECKS.due("text(98) behind an ended line", desk.text(98), true);
        CHECKS.dueCounts("text(98) behind an ended line", desk, 7, 1, 4, 2);
        desk.end();
        CHECKS.dueBytes("two TEXT lines", desk, 45, 97, 92, 110, 10, 45, 98, 10);
    }

    private static void anotherLineEnds() {
        for (int kind = 0; kind <= 3; kind++) {
            EventLineDesk desk = new EventLineDesk();
            desk.begin(kind);
            CHECKS.due("text(97) behind kind " + kind, desk.text(97), true);
            CHECKS.dueCounts("text(97) behind kind " + kind, desk, 4, 1, 4, 2);
        }
    }

    private static void charactersAsBytes() {
        EventLineDesk desk = new EventLineDesk();
        int[] characters = {0, 9, 10, 13, 92, 0x7F, 0x80, 0x7FF, 0x800, 0xD7FF, 0xE000, 0xFFFF, 0x10000, 0x10FFFF};
        for (int character : characters) {
            CHECKS.due("text(" + character + ")", desk.text(character), true);
        }
        desk.end();
        CHECKS.dueBytes("one TEXT line", desk,
                45, 0, 92, 116, 92, 110, 92, 114, 92, 92, 0x7F, 0xC2, 0x80, 0xDF, 0xBF,
                0xE0, 0xA0, 0x80, 0xED, 0x9F, 0xBF, 0xEE, 0x80, 0x80, 0xEF, 0xBF, 0xBF,
                0xF0, 0x90, 0x80, 0x80, 0xF4, 0x8F, 0xBF, 0xBF, 10);
    }

    private static void noCharacter() {
        int[] wrong = {-1, 0xD800, 0xDFFF, 0x110000, Integer.MIN_VALUE, Integer.MAX_VALUE};
        for (int number : wrong) {
            EventLineDesk desk = new EventLineDesk();
            CHECKS.due("text(" + number + "), none open", desk.text(number), false);
            CHECKS.dueCounts("text(" + number + "), none open", desk, 0, 0, -1, 0);
            desk.begin(3);
            CHECKS.due("text(" + number + "), another open", desk.text(number), false);
            CHECKS.dueCounts("text(" + number + "), another open", desk, 1, 0, 3, 1);
            desk.text(97);
            CHECKS.due("text(" + number + "), TEXT open", desk.text(number), false);
            CHECKS.dueCounts("text(" + number + "), TEXT open", desk, 4, 1, 4, 2);
        }
    }
}
