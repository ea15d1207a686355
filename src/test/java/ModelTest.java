import java.io.ByteArrayOutputStream;
import java.nio.charset.StandardCharsets;
import java.util.Arrays;
import java.util.Random;

/**
 * Long mixed runs beside a second program that keeps all bytes ever written in one row and has its
 * UTF-8 from the Java library. The seeds are fixed, so a wrong run comes again.
 */
public final class ModelTest {
    private static final Checks CHECKS = new Checks("Promises 1 to 9");
    private static final int[] CHARACTERS = {
        -1, 0, 9, 10, 13, 92, 97, 0x7F, 0x80, 0x7FF, 0x800, 0xD7FF, 0xD800, 0xDFFF, 0xE000, 0xFFFF,
        0x10000, 0x10FFFF, 0x110000, Integer.MIN_VALUE, Integer.MAX_VALUE};

    public static void main(String[] args) {
        everyCharacter();
        for (int seed = 0; seed < 2000; seed++) {
            run(seed, 512, 6);
        }
        // Beyond the promised 512 calls, and with fewer takes, so that the room is often short.
        for (int seed = 0; seed < 20; seed++) {
            run(seed, 20000, 60);
        }
        CHECKS.finish();
    }

    private static void everyCharacter() {
        EventLineDesk desk = new EventLineDesk();
        for (int character = -1; character <= 0x110000; character++) {
            if (desk.text(character)) {
                desk.end();
                int[] bytes = Model.line(character);
                CHECKS.due("take() of " + character, desk.take(), Model.piece(bytes));
                CHECKS.due("take() behind " + character, desk.take(), 0L);
            } else if (Model.isCharacter(character)) {
                CHECKS.due("text(" + character + ")", false, true);
            }
            CHECKS.due("count(0) behind " + character, desk.count(0), 0);
        }
        CHECKS.due("count(1)", desk.count(1), 0x110000 - 0x800);
    }

    private static void run(int seed, int calls, int takesOneOf) {
        Random random = new Random(seed);
        EventLineDesk desk = new EventLineDesk();
        Model model = new Model();
        for (int i = 0; i < calls; i++) {
            String at = "seed " + seed + ", call " + i + ": ";
            if (random.nextInt(takesOneOf) == 0) {
                CHECKS.due(at + "take()", desk.take(), model.take());
            } else {
                write(at, random, desk, model);
            }
            CHECKS.dueCounts(at, desk, model.size - model.taken, model.lines(), model.kind, model.size - model.ended);
            CHECKS.due(at + "mark()", desk.mark(), model.kind < 0 ? model.size : -1);
        }
    }

    private static void write(String at, Random random, EventLineDesk desk, Model model) {
        int character = CHARACTERS[random.nextInt(CHARACTERS.length)];
        int choice = random.nextInt(40);
        if (choice < 4) {
            int kind = random.nextInt(7) - 1;
            CHECKS.due(at + "begin(" + kind + ")", desk.begin(kind), model.begin(kind));
        } else if (choice < 22) {
            CHECKS.due(at + "add(" + character + ")", desk.add(character), model.add(character));
        } else if (choice < 34) {
            CHECKS.due(at + "text(" + character + ")", desk.text(character), model.text(character));
        } else if (choice < 38) {
            CHECKS.due(at + "end()", desk.end(), model.end());
        } else {
            int mark = model.taken - 2 + random.nextInt(model.size - model.taken + 5);
            CHECKS.due(at + "back(" + mark + ")", desk.back(mark), model.back(mark));
        }
    }

    private static final class Model {
        private static final int[] FIRST = {40, 41, 65, 63, 45};
        private int[] bytes = new int[1024];
        private int size = 0;
        private int taken = 0;
        private int ended = 0;
        private int kind = -1;

        static boolean isCharacter(int number) {
            return Character.isValidCodePoint(number) && (number < 0xD800 || number > 0xDFFF);
        }

        static int[] line(int character) {
            int[] inside = bytesOf(character);
            int[] line = new int[inside.length + 2];
            line[0] = 45;
            System.arraycopy(inside, 0, line, 1, inside.length);
            line[line.length - 1] = 10;
            return line;
        }

        static long piece(int[] some) {
            long piece = (long) some.length << 56;
            for (int i = 0; i < some.length; i++) {
                piece |= (long) some[i] << (48 - 8 * i);
            }
            return piece;
        }

        private static int[] bytesOf(int character) {
            String written = Character.toString(character)
                    .replace("\\", "\\\\").replace("\n", "\\n").replace("\t", "\\t").replace("\r", "\\r");
            byte[] utf8 = written.getBytes(StandardCharsets.UTF_8);
            int[] all = new int[utf8.length];
            for (int i = 0; i < all.length; i++) {
                all[i] = utf8[i] & 0xFF;
            }
            return all;
        }

        private boolean write(boolean newLine, int newKind, int[] inside) {
            ByteArrayOutputStream coming = new ByteArrayOutputStream();
            if (newLine && kind >= 0) {
                coming.write(10);
            }
            int before = coming.size();
            if (newLine) {
                coming.write(FIRST[newKind]);
            }
            for (int one : inside) {
                coming.write(one);
            }
            if (size - taken + coming.size() + 1 > 3000) {
                return false;
            }
            if (newLine) {
                ended = size + before;
                kind = newKind;
            }
            for (byte one : coming.toByteArray()) {
                append(one & 0xFF);
            }
            return true;
        }

        private void append(int one) {
            if (size == bytes.length) {
                bytes = Arrays.copyOf(bytes, 2 * size);
            }
            bytes[size++] = one;
        }

        boolean begin(int newKind) {
            return newKind >= 0 && newKind <= 3 && write(true, newKind, new int[0]);
        }

        boolean add(int character) {
            return kind >= 0 && kind <= 3 && isCharacter(character) && write(false, kind, bytesOf(character));
        }

        boolean text(int character) {
            return isCharacter(character) && write(kind != 4, 4, bytesOf(character));
        }

        int end() {
            int was = kind;
            if (was >= 0) {
                append(10);
                ended = size;
                kind = -1;
            }
            return was;
        }

        boolean back(int mark) {
            if (mark < taken || mark > size || mark > 0 && bytes[mark - 1] != 10) {
                return false;
            }
            size = mark;
            ended = mark;
            kind = -1;
            return true;
        }

        long take() {
            int from = taken;
            taken = Math.min(ended, taken + 7);
            return piece(Arrays.copyOfRange(bytes, from, taken));
        }

        int lines() {
            int lines = 0;
            for (int i = 0; i < ended; i++) {
                lines += bytes[i] == 10 ? 1 : 0;
            }
            return lines;
        }
    }
}
