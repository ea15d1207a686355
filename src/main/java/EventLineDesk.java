/**
 * Lines of events as bytes: characters that stand together are one line, all is written in UTF-8
 * with some signs written otherwise, and taken piece by piece.
 */
public final class EventLineDesk {
    private static final int START = 0;
    private static final int END = 1;
    private static final int ATTRIBUTE = 2;
    private static final int INSTRUCTION = 3;
    private static final int TEXT = 4;
    private static final int NONE = -1;

    private static final int ROOM = 3000;
    private static final int PIECE = 7;
    private static final int LINE_END = 10;
    private static final int ESCAPE = 92;

    /*
     * More places than ROOM, so that the byte taken last still stands in the ring when it is full:
     * back() asks whether it ended a line. A power of two, so that a mask finds a position's place.
     */
    private static final int PLACES = 4096;
    private static final int LAST_PLACE = PLACES - 1;

    /* A position counts from the first byte ever; the bytes from taken up to total are held here. */
    private final byte[] ring;
    private int total;
    private int taken;
    private int endedLines;
    private int openKind;
    private int openStart;

    public EventLineDesk() {
        ring = new byte[PLACES];
        total = 0;
        taken = 0;
        endedLines = 0;
        openKind = NONE;
        openStart = 0;
    }

    public boolean begin(int kind) {
        if (kind < START || kind > INSTRUCTION || !hasRoomFor(bytesToOpen())) {
            return false;
        }
        openLine(kind);
        return true;
    }

    public boolean add(int character) {
        if (openKind == NONE || openKind == TEXT || !isCharacter(character)) {
            return false;
        }
        if (!hasRoomFor(sizeOf(character))) {
            return false;
        }
        putCharacter(character);
        return true;
    }

    public boolean text(int character) {
        if (!isCharacter(character)) {
            return false;
        }
        int opening = openKind == TEXT ? 0 : bytesToOpen();
        if (!hasRoomFor(opening + sizeOf(character))) {
            return false;
        }
        if (openKind != TEXT) {
            openLine(TEXT);
        }
        putCharacter(character);
        return true;
    }

    public int end() {
        int kind = openKind;
        if (kind != NONE) {
            endLine();
        }
        return kind;
    }

    public boolean back(int mark) {
        if (mark < taken || mark > total || !isBetweenLines(mark)) {
            return false;
        }
        endedLines -= lineEndsFrom(mark);
        total = mark;
        openKind = NONE;
        return true;
    }

    public int mark() {
        return openKind == NONE ? total : -1;
    }

    public long take() {
        int size = Math.min(endOfEndedLines() - taken, PIECE);
        if (size <= 0) {
            return 0L;
        }
        long piece = size;
        for (int i = 0; i < PIECE; i++) {
            piece = (piece << 8) | (i < size ? byteAt(taken + i) : 0);
        }
        taken += size;
        return piece;
    }

    public int count(int what) {
        switch (what) {
            case 0:
                return total - taken;
            case 1:
                return endedLines;
            case 2:
                return openKind;
            case 3:
                return total - endOfEndedLines();
            default:
                return -1;
        }
    }

    /* The byte that ends the line is always counted in, so that end() never lacks room. */
    private boolean hasRoomFor(int coming) {
        return total - taken + coming + 1 <= ROOM;
    }

    /* A line that is open has to be ended before the first byte of the next one. */
    private int bytesToOpen() {
        return openKind == NONE ? 1 : 2;
    }

    private void openLine(int kind) {
        if (openKind != NONE) {
            endLine();
        }
        openKind = kind;
        openStart = total;
        put(firstByteOf(kind));
    }

    private void endLine() {
        put(LINE_END);
        endedLines++;
        openKind = NONE;
    }

    private int endOfEndedLines() {
        return openKind == NONE ? total : openStart;
    }

    /* A byte 10 only ever ends a line: the character 10 is written otherwise. */
    private boolean isBetweenLines(int position) {
        return position == 0 || byteAt(position - 1) == LINE_END;
    }

    private int lineEndsFrom(int start) {
        int found = 0;
        for (int position = start; position < total; position++) {
            if (byteAt(position) == LINE_END) {
                found++;
            }
        }
        return found;
    }

    private static int firstByteOf(int kind) {
        switch (kind) {
            case START:
                return 40;
            case END:
                return 41;
            case ATTRIBUTE:
                return 65;
            case INSTRUCTION:
                return 63;
            default:
                return 45;
        }
    }

    private static boolean isCharacter(int number) {
        return (number >= 0 && number <= 0xD7FF) || (number >= 0xE000 && number <= 0x10FFFF);
    }

    /* What stands behind the escape byte for a character that is written otherwise, 0 for the rest. */
    private static int escapedFormOf(int character) {
        switch (character) {
            case 92:
                return 92;
            case 10:
                return 110;
            case 9:
                return 116;
            case 13:
                return 114;
            default:
                return 0;
        }
    }

    private static int sizeOf(int character) {
        if (escapedFormOf(character) != 0) {
            return 2;
        }
        if (character < 0x80) {
            return 1;
        }
        if (character < 0x800) {
            return 2;
        }
        return character < 0x10000 ? 3 : 4;
    }

    private void putCharacter(int character) {
        int form = escapedFormOf(character);
        if (form != 0) {
            put(ESCAPE);
            put(form);
        } else {
            putUtf8(character);
        }
    }

    private void putUtf8(int character) {
        if (character < 0x80) {
            put(character);
        } else if (character < 0x800) {
            put(0xC0 | (character >> 6));
            putTail(character);
        } else if (character < 0x10000) {
            put(0xE0 | (character >> 12));
            putTail(character >> 6);
            putTail(character);
        } else {
            put(0xF0 | (character >> 18));
            putTail(character >> 12);
            putTail(character >> 6);
            putTail(character);
        }
    }

    private void putTail(int bits) {
        put(0x80 | (bits & 0x3F));
    }

    private void put(int value) {
        int place = total & LAST_PLACE;
        if (place < ring.length) {
            ring[place] = (byte) value;
        }
        total++;
    }

    private int byteAt(int position) {
        int place = position & LAST_PLACE;
        return place < ring.length ? ring[place] & 0xFF : 0;
    }
}
