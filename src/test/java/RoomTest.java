/**
 * The edge of 3000 bytes. The 512 calls that the document promises write some 2050 bytes at most, so
 * these runs are longer than that: they hold the class to the same words beyond it.
 */
public final class RoomTest {
    private static final Checks CHECKS = new Checks();

    public static void main(String[] args) {
        beginAtTheEdge();
        beginBehindAnOpenLine();
        addAtTheEdge();
        textAtTheEdge();
        textBehindAnotherLine();
        takenBytesGiveRoom();
        goneBytesGiveRoom();
        fullAndOneLineTaken();
        CHECKS.finish();
    }

    /** One TEXT line that has ended, of so many bytes in all. */
    private static EventLineDesk ended(int bytes) {
        EventLineDesk desk = open(bytes - 1);
        desk.end();
        CHECKS.due("mark() of " + bytes + " bytes", desk.mark(), bytes);
        return desk;
    }

    /** One open TEXT line of so many bytes. */
    private static EventLineDesk open(int bytes) {
        EventLineDesk desk = new EventLineDesk();
        for (int i = 1; i < bytes; i++) {
            CHECKS.due("text(97) to " + bytes + " bytes", desk.text(97), true);
        }
        return desk;
    }

    private static void beginAtTheEdge() {
        CHECKS.due("begin(0) at 2998", ended(2998).begin(0), true);
        EventLineDesk desk = ended(2999);
        CHECKS.due("begin(0) at 2999", desk.begin(0), false);
        CHECKS.dueCounts("begin(0) at 2999", desk, 2999, 1, -1, 0);
        CHECKS.due("begin(0) at 3000", ended(3000).begin(0), false);
    }

    private static void beginBehindAnOpenLine() {
        EventLineDesk desk = open(2997);
        CHECKS.due("begin(1) behind 2997 open", desk.begin(1), true);
        CHECKS.dueCounts("begin(1) behind 2997 open", desk, 2999, 1, 1, 1);
        CHECKS.due("end() of the last byte", desk.end(), 1);
        CHECKS.due("count(0)", desk.count(0), 3000);
        desk = open(2998);
        CHECKS.due("begin(1) behind 2998 open", desk.begin(1), false);
        CHECKS.dueCounts("begin(1) behind 2998 open", desk, 2998, 0, 4, 2998);
    }

    private static void addAtTheEdge() {
        int[] characters = {97, 0x7F, 10, 0x80, 0x800, 0x10000};
        int[] sizes = {1, 1, 2, 2, 3, 4};
        for (int i = 0; i < characters.length; i++) {
            String call = "add(" + characters[i] + ")";
            EventLineDesk desk = ended(2998 - sizes[i]);
            desk.begin(2);
            CHECKS.due(call + " with just the room", desk.add(characters[i]), true);
            CHECKS.due("end()", desk.end(), 2);
            CHECKS.due("count(0)", desk.count(0), 3000);
            desk = ended(2999 - sizes[i]);
            desk.begin(2);
            CHECKS.due(call + " with a byte too few", desk.add(characters[i]), false);
            CHECKS.dueCounts(call + " refused", desk, 3000 - sizes[i], 1, 2, 1);
        }
    }

    private static void textAtTheEdge() {
        int[] characters = {97, 92, 0x7FF, 0xFFFF, 0x10FFFF};
        int[] sizes = {1, 2, 2, 3, 4};
        for (int i = 0; i < characters.length; i++) {
            String call = "text(" + characters[i] + ")";
            CHECKS.due(call + " with just the room", open(2999 - sizes[i]).text(characters[i]), true);
            EventLineDesk desk = open(3000 - sizes[i]);
            CHECKS.due(call + " with a byte too few", desk.text(characters[i]), false);
            CHECKS.dueCounts(call + " refused", desk, 3000 - sizes[i], 0, 4, 3000 - sizes[i]);
            CHECKS.due(call + " opens with just the room", ended(2998 - sizes[i]).text(characters[i]), true);
            desk = ended(2999 - sizes[i]);
            CHECKS.due(call + " opens with a byte too few", desk.text(characters[i]), false);
            CHECKS.dueCounts(call + " opens, refused", desk, 2999 - sizes[i], 1, -1, 0);
        }
    }

    private static void textBehindAnotherLine() {
        EventLineDesk desk = ended(2995);
        desk.begin(3);
        CHECKS.due("text(97) with just the room", desk.text(97), true);
        CHECKS.dueCounts("text(97) with just the room", desk, 2999, 2, 4, 2);
        desk = ended(2996);
        desk.begin(3);
        CHECKS.due("text(97) with a byte too few", desk.text(97), false);
        CHECKS.dueCounts("text(97) refused", desk, 2997, 1, 3, 1);
        CHECKS.due("add(97) still has room", desk.add(97), true);
    }

    private static void takenBytesGiveRoom() {
        EventLineDesk desk = ended(3000);
        CHECKS.due("text(97), full", desk.text(97), false);
        desk.take();
        for (int i = 0; i < 5; i++) {
            CHECKS.due("text(97), 7 taken", desk.text(97), true);
        }
        CHECKS.due("text(97), full again", desk.text(97), false);
        CHECKS.due("count(0)", desk.count(0), 2999);
    }

    private static void goneBytesGiveRoom() {
        EventLineDesk desk = ended(1000);
        for (int i = 0; i < 3000 && desk.text(97); i++) {
            CHECKS.due("count(1)", desk.count(1), 1);
        }
        CHECKS.due("count(0)", desk.count(0), 2999);
        CHECKS.due("back(1000)", desk.back(1000), true);
        CHECKS.due("begin(0)", desk.begin(0), true);
        CHECKS.due("add(97)", desk.add(97), true);
        CHECKS.dueCounts("add(97)", desk, 1002, 1, 0, 2);
    }

    /** The byte taken last must be known even when 3000 bytes stand behind it. */
    private static void fullAndOneLineTaken() {
        for (int lineBytes = 6; lineBytes <= 8; lineBytes++) {
            EventLineDesk desk = ended(lineBytes);
            desk.begin(0);
            desk.take();
            for (int i = 0; i < 3000 && desk.add(97); i++) {
                CHECKS.due("count(2)", desk.count(2), 0);
            }
            desk.end();
            int takenBytes = Math.min(7, lineBytes);
            CHECKS.due("count(0)", desk.count(0), 3000);
            CHECKS.due("back(" + takenBytes + "), line of " + lineBytes, desk.back(takenBytes), lineBytes <= 7);
        }
    }
}
