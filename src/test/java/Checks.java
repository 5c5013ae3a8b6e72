import java.nio.charset.StandardCharsets;

/** What the tests share: counted checks, and steps that take several calls. */
class Checks {
    private static int checks;
    private static int wrong;

    static void due(String what, long got, long want) {
        checks++;
        if (got != want) {
            wrong++;
            System.out.println(what + ": answered " + got + ", due is " + want);
        }
    }

    static void due(String what, boolean got, boolean want) {
        due(what, got ? 1 : 0, want ? 1 : 0);
    }

    /** Tells how it went; a wrong answer ends the program with 1. */
    static void finish(String test) {
        System.out.println(test + ": " + checks + " checks, " + wrong + " wrong");
        if (wrong != 0) {
            System.exit(1);
        }
    }

    /** A face with sixteen times the same number. */
    static int flat(FaceRows x, int kin, int v) {
        return x.face(kin, v * 0x01010101, v * 0x01010101, v * 0x01010101, v * 0x01010101);
    }

    /** A face with sixteen numbers. */
    static int faceOf(FaceRows x, int kin, int... n) {
        int[] four = new int[4];
        for (int j = 0; j < 16; j++) {
            four[j / 4] |= n[j] << 24 - 8 * (j % 4);
        }
        return x.face(kin, four[0], four[1], four[2], four[3]);
    }

    /** Sixteen times v, but for pairs of a number's place and what is there. */
    static int[] numbers(int v, int... others) {
        int[] n = new int[16];
        java.util.Arrays.fill(n, v);
        for (int i = 0; i < others.length; i += 2) {
            n[others[i]] = others[i + 1];
        }
        return n;
    }

    static void row(FaceRows x, int row, int... faces) {
        x.clear(row);
        for (int face : faces) {
            x.put(row, face);
        }
    }

    /** The tape is the text and nothing else; behind its end there were other letters. */
    static void tape(FaceRows x, String text) {
        byte[] bytes = text.getBytes(StandardCharsets.ISO_8859_1);
        x.end(0);
        for (int i = 0; i < bytes.length; i += 20) {
            int[] five = new int[5];
            for (int j = 0; j < 20; j++) {
                five[j / 4] |= (i + j < bytes.length ? bytes[i + j] & 255 : 'z') << 24 - 8 * (j % 4);
            }
            x.feed(five[0], five[1], five[2], five[3], five[4]);
        }
        due("end of '" + text + "'", x.end(bytes.length), true);
    }

    static int text(FaceRows x, int sort, int k, String text) {
        tape(x, text);
        return x.text(sort, k);
    }

    static void taken(FaceRows x, int sort, String text, int lines) {
        due("text of '" + text + "'", text(x, sort, 0, text), lines);
        due("fault of '" + text + "'", x.fault(0), 0);
        due("its place in '" + text + "'", x.fault(1), -1);
    }

    static void fault(FaceRows x, int sort, String text, int fault, int place) {
        due("text of '" + text + "'", text(x, sort, 0, text), -1);
        due("fault of '" + text + "'", x.fault(0), fault);
        due("its place in '" + text + "'", x.fault(1), place);
    }
}
