/**
 * Desks in a state that a test starts from. One that is nearly full takes more than the 512 calls
 * that the document promises, which write some 2050 bytes at most: the tests hold the class to the
 * same words beyond them.
 */
final class Desks {
    static final int TEXT = 4;

    private Desks() {
    }

    /** One open line of so many bytes: its first byte and then the character 97. */
    static EventLineDesk open(int kind, int bytes) {
        EventLineDesk desk = new EventLineDesk();
        line(desk, kind, bytes);
        return desk;
    }

    /** One line that has ended, of so many bytes with the one that ends it. */
    static EventLineDesk ended(int kind, int bytes) {
        EventLineDesk desk = open(kind, bytes - 1);
        desk.end();
        return desk;
    }

    /** Writes a line of so many bytes behind what is there, and leaves it open. */
    static void line(EventLineDesk desk, int kind, int bytes) {
        if (kind != TEXT) {
            desk.begin(kind);
        }
        for (int i = 1; i < bytes; i++) {
            write(desk, kind, 97);
        }
    }

    /** A character for the open line of that kind. */
    static boolean write(EventLineDesk desk, int kind, int character) {
        return kind == TEXT ? desk.text(character) : desk.add(character);
    }
}
