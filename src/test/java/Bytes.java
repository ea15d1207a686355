import java.util.Arrays;

/** The bytes that are due. */
final class Bytes {
    private static final int[] FIRST = {40, 41, 65, 63, 45};

    private Bytes() {
    }

    static int first(int kind) {
        return FIRST[kind];
    }

    /** A line that is open, of so many bytes: its first byte and then the character 97. */
    static int[] open(int kind, int bytes) {
        int[] line = new int[bytes];
        Arrays.fill(line, 97);
        line[0] = FIRST[kind];
        return line;
    }

    /** The same line when it has ended, of so many bytes with the one that ends it. */
    static int[] ended(int kind, int bytes) {
        return join(open(kind, bytes - 1), 10);
    }

    static int[] join(int[] front, int... behind) {
        int[] all = Arrays.copyOf(front, front.length + behind.length);
        System.arraycopy(behind, 0, all, front.length, behind.length);
        return all;
    }

    static int behindLastEnd(int[] bytes) {
        int start = bytes.length;
        while (start > 0 && bytes[start - 1] != 10) {
            start--;
        }
        return bytes.length - start;
    }

    /** What take() answers for the bytes from there on, at most 7. */
    static long piece(int[] bytes, int from) {
        int size = Math.min(7, bytes.length - from);
        long piece = (long) size << 56;
        for (int i = 0; i < size; i++) {
            piece |= (long) bytes[from + i] << (48 - 8 * i);
        }
        return piece;
    }
}
