import java.util.ArrayList;
import java.util.List;

/**
 * The sentences of the document's terms that name a boundary, but for those about texts: faces and heads
 * (section 1), witnesses (2), and what is shown to them (3), each from just inside and from just outside.
 */
public final class BoundariesTest extends Checks {
    public static void main(String[] args) {
        quotientsGoTowardsZero();
        nowIsADay();
        numbersByTheLowestFiveBits();
        partsAndWhole();
        typesAtFirst();
        rowsAtFirst();
        headsAtFirst();
        withoutALine();
        whatItComesToIsCut();
        limitIsCut();
        nobodyIsCut();
        blurAndPartAreCut();
        fadeAndPullAreCut();
        intsWrap();
        askedOfAWitness();
        askedOfAFace();
        theTypeAsItIsThenForEver();
        theHeadAsItIsWhenAsked();
        blurred();
        pulled();
        aDayGoesBy();
        inNow();
        halfOfPull();
        inOrderThenThePick();
        weights();
        nobodyThere();
        whatIsLeft();
        gapAndFirst();
        toldAtMostNine();
        theRowAsItIsThen();
        asItWasAheadOfIt();
        putTogether();
        bothNumbersOfAPart();
        theWholeBySix();
        bredPicks();
        bredChildren();
        bredChanges();
        bredRounds();
        finish("BoundariesTest");
    }

    private static int far(String sum, int secs) {
        FaceRows x = new FaceRows();
        flat(x, 0, 10);
        due("lines of far " + sum, text(x, 0, 0, "far " + sum + ";"), 1);
        x.witness(0, 0, 0, secs, 0, 0);
        return x.far(0, 0);
    }

    /** A face of tens, a witness of it by head 0, and a row 0 of faces with sixteen times these numbers. */
    private static FaceRows seen(String head, int... values) {
        FaceRows x = new FaceRows();
        flat(x, 0, 10);
        text(x, 0, 0, head);
        x.witness(0, 0, 0, 0, 0, 0);
        for (int v : values) {
            x.put(0, v < 0 ? -1 : flat(x, 1, v));
        }
        return x;
    }

    // "Quotients go towards 0."
    private static void quotientsGoTowardsZero() {
        due("-7 / 2", far("100 + (0 - 7) / 2", 0), 97);
        due("-8 / 2", far("100 + (0 - 8) / 2", 0), 96);
        due("-9 / 2", far("100 + (0 - 9) / 2", 0), 96);
        due("-1 / 9999", far("100 + (0 - 1) / 9999", 0), 100);
        due("7 / 2", far("7 / 2", 0), 3);
        due("6 / 7", far("6 / 7", 0), 0);
    }

    // "NOW is a DAY 0 .. 999 (0 at first)"; "NONE .. if NOW would be above 999"
    private static void nowIsADay() {
        FaceRows x = new FaceRows();
        due("now at first", x.look(0), 0);
        due("a day", x.days(1), 1);
        due("sixty days", x.days(60), 61);
        for (int i = 0; i < 15; i++) {
            x.days(60);
        }
        due("now", x.look(0), 961);
        due("39 days too many", x.days(39), -1);
        due("now as it was", x.look(0), 961);
        due("38 days", x.days(38), 999);
        due("a day too many", x.days(1), -1);
        due("sixty too many", x.days(60), -1);
        due("the last day", x.look(0), 999);
    }

    // "of each of a, b, c, d the four bytes, the highest first, are NUMBERS by their lowest five bits"
    private static void numbersByTheLowestFiveBits() {
        FaceRows x = new FaceRows();
        x.face(0, 0x1F203FFF, 0xE080609F, Integer.MIN_VALUE, Integer.MAX_VALUE);
        int[] want = {31, 0, 31, 31, 0, 0, 0, 31, 0, 0, 0, 0, 31, 31, 31, 31};
        for (int j = 0; j < 16; j++) {
            due("number " + j, x.number(0, j), want[j]);
        }
        x.face(0, 0x01020304, 0x05060708, 0x090A0B0C, 0x0D0E0F10);
        for (int j = 0; j < 16; j++) {
            due("the order of number " + j, x.number(1, j), j + 1);
        }
        x.face(0, -1, 0, -1, 0);
        for (int j = 0; j < 16; j++) {
            due("bytes of -1 and 0, number " + j, x.number(2, j), j / 4 % 2 == 0 ? 31 : 0);
        }
    }

    // "two for each of the PARTS 0 .. 5, and 12 .. 15 for the WHOLE"
    private static void partsAndWhole() {
        for (int j = 0; j < 16; j++) {
            for (int to = 9; to <= 11; to += 2) {
                FaceRows x = new FaceRows();
                flat(x, 0, 10);
                faceOf(x, 0, numbers(10, j, to));
                text(x, 0, 1, "far 10 * parts + whole;");
                x.witness(0, 0, 0, 0, 0, 0);
                x.witness(1, 0, 0, 0, 0, 0);
                due("usual far by number " + j, x.far(0, 1), j < 12 ? 1 : 2);
                due("parts or whole by number " + j, x.far(1, 1), j < 12 ? 10 : 1);
            }
        }
    }

    // "A KIN has a TYPE, sixteen NUMBERS too (16 each at first)"
    private static void typesAtFirst() {
        for (int kin = 0; kin < 6; kin++) {
            FaceRows x = new FaceRows();
            flat(x, kin, 3);
            text(x, 0, 0, "fade 100;");
            x.witness(0, 0, 0, 0, 0, 0);
            x.days(1);
            for (int j = 0; j < 16; j++) {
                due("type of kin " + kin + ", number " + j, x.memory(0, j), 16);
            }
        }
        FaceRows x = new FaceRows();
        flat(x, 1, 3);
        flat(x, 2, 3);
        faceOf(x, 5, 0, 1, 2, 3, 4, 5, 6, 7, 8, 9, 10, 11, 12, 13, 14, 31);
        text(x, 0, 0, "fade 100;");
        due("a type by a face of another kin", x.type(1, 2), true);
        x.witness(0, 0, 0, 0, 0, 0);
        x.witness(0, 1, 1, 0, 0, 0);
        x.days(1);
        for (int j = 0; j < 16; j++) {
            due("the face's kin's type", x.memory(0, j), j == 15 ? 31 : j);
            due("the type of another kin, not of the own one", x.memory(1, j), 16);
        }
    }

    // "ROWS 0 .. 5 have 0 .. 9 PLACES (none at first)"
    private static void rowsAtFirst() {
        FaceRows x = new FaceRows();
        flat(x, 0, 3);
        x.witness(0, 0, 0, 0, 0, 0);
        for (int row = 0; row < 6; row++) {
            due("place 0 of row " + row, x.odds(0, row, 0, -1, 0, 0), -1);
            due("nobody's odds of row " + row, x.odds(0, row, 0, -1, 0, -1), 1000000);
            for (int n = 1; n <= 9; n++) {
                due("place " + n + " of row " + row, x.put(row, n % 2 - 1), n);
                due("its odds", x.odds(0, row, 0, -1, 0, n - 1) >= 0, true);
                due("odds of the next one", x.odds(0, row, 0, -1, 0, n), -1);
            }
            due("a tenth face", x.put(row, 0), -1);
            due("a tenth nobody", x.put(row, -1), -1);
        }
        for (int row = 0; row < 6; row++) {
            due("clear row " + row, x.clear(row), true);
            due("clear it again", x.clear(row), true);
            due("place 0 of it", x.odds(0, row, 0, -1, 0, 0), -1);
        }
        due("put then", x.put(5, 0), 1);
        due("the others are as they were", x.put(4, 0), 1);
    }

    // "HEADS 0 .. 3 are TEXTS (empty at first)"; "WAYS 0 .. 3 are TEXTS (empty at first)"; said too
    private static void headsAtFirst() {
        FaceRows x = new FaceRows();
        flat(x, 0, 10);
        flat(x, 0, 12);
        row(x, 0, 0, 1);
        for (int head = 0; head < 4; head++) {
            x.witness(head, 0, 0, 0, 0, 0);
            due("far by head " + head, x.far(head, 1), 40);
            due("sure by head " + head, x.sure(head, 0, 1), 50);
        }
        x.world(0, 0, 0, 0, 0, 0, 0, 0, 1);
        for (int way = 0; way < 4; way++) {
            due("right by way " + way, x.tried(0, way, 0), 100000000 / 170);
            due("wrong by way " + way, x.tried(0, way, 1), 60000000 / 170);
        }
        due("score at first", x.score(0), 0);
        due("lines at first", x.look(5), 0);
    }

    // "Without a LINE: far parts + 2 * whole, blur 0, fade 0, pull 0, limit 100, nobody 10, sure 50, part 0."
    private static void withoutALine() {
        // FAR 99, 100 and 101 of faces against tens
        FaceRows x = new FaceRows();
        flat(x, 0, 10);
        faceOf(x, 0, numbers(10, 0, 31, 1, 31, 2, 31, 3, 31, 4, 25));
        faceOf(x, 0, numbers(10, 0, 31, 1, 31, 2, 31, 3, 31, 4, 26));
        faceOf(x, 0, numbers(10, 0, 31, 1, 31, 2, 31, 3, 31, 4, 27));
        x.witness(0, 0, 0, 0, 0, 0);
        for (int i = 1; i <= 3; i++) {
            row(x, 0, i);
            due("far", x.far(0, i), 98 + i);
            due("limit 100, nobody 10", x.odds(0, 0, 0, -1, 0, 0), i == 1 ? 1000000 / 11 : 0);
        }
        row(x, 0, 1, 2);
        due("sure", x.sure(0, 0, 1), 50);
        for (int j = 0; j < 16; j++) {
            due("blur 0", x.memory(0, j), 10);
        }
        x.show(0, 0, 0, -1, 0, 1);
        due("pull 0", x.memory(0, 0), 10);
        x.days(60);
        due("fade 0", x.memory(0, 0), 10);
        flat(x, 0, 9);
        flat(x, 0, 11);
        row(x, 0, 4, 5, 0);
        due("part 0", x.number(x.together(0, 0), 0), 10);
        due("pull 0 of one put together", x.memory(0, 0), 10);
        x.witness(0, 0, 5, 0, 0, 0);
        due("part 0 of an odd number", x.number(x.together(1, 0), 0), 11);
        // Each line is without the others
        text(x, 0, 0, "blur 0; fade 0; pull 0; limit 100; nobody 10; sure 50; part 0;");
        due("far without its line", x.far(0, 1), 99);
        text(x, 0, 0, "far 1; blur 0; fade 0; pull 0; nobody 10; sure 50; part 0;");
        due("limit without its line", x.odds(0, 0, 0, -1, 0, 0), 99000000 / 307);
        text(x, 0, 0, "far 1; blur 0; fade 0; pull 0; limit 100; sure 49; part 0;");
        due("nobody without its line", x.odds(0, 0, 0, -1, 0, 0), 99000000 / 307);
        text(x, 0, 0, "far 1; blur 0; fade 0; pull 0; limit 100; nobody 9; part 0;");
        due("sure without its line", x.sure(0, 0, 0), 50);
    }

    // "far .. 0 .. 9999"; "sure 0 .. 100"
    private static void whatItComesToIsCut() {
        due("far 9998", far("9999 - 1", 0), 9998);
        due("far 9999", far("9999", 0), 9999);
        due("far 10000", far("9999 + 1", 0), 9999);
        due("far 1", far("1", 0), 1);
        due("far 0", far("0", 0), 0);
        due("far -1", far("0 - 1", 0), 0);
        int[][] sure = {{99, 99}, {100, 100}, {101, 100}, {9999, 100}, {1, 1}, {0, 0}};
        for (int[] s : sure) {
            due("sure " + s[0], seen("sure " + s[0] + ";", 10).sure(0, 0, 0), s[1]);
        }
        due("sure -1", seen("sure 0 - 1;", 10).sure(0, 0, 0), 0);
        // A far that is cut is cut wherever it is asked
        FaceRows x = seen("far 9999 * 9; limit 9999; sure first - 9900 + gap;", 10, 11);
        due("first is cut", x.sure(0, 0, 0), 99);
        due("weight of a far that is cut", x.odds(0, 0, 0, -1, 0, 0), 0);
        x = seen("far 0 - 50; limit 10;", 10);
        due("a far below 0 is no more weight", x.odds(0, 0, 0, -1, 0, 0), 500000);
    }

    private static void limitIsCut() {
        String[] limits = {"9999", "9999 + 1", "9999 * 2"};
        for (String limit : limits) {
            due("limit " + limit, seen("far 0; nobody 9999; limit " + limit + ";", 10).odds(0, 0, 0, -1, 0, 0), 500000);
        }
        due("limit 9998", seen("far 0; nobody 9999; limit 9998;", 10).odds(0, 0, 0, -1, 0, 0), (int) (9998000000L / 19997));
        due("limit 1", seen("far 0; nobody 1; limit 1;", 10).odds(0, 0, 0, -1, 0, 0), 500000);
        due("limit 0", seen("far 0; nobody 1; limit 0;", 10).odds(0, 0, 0, -1, 0, 0), 0);
        due("limit -1", seen("far 0; nobody 1; limit 0 - 1;", 10).odds(0, 0, 0, -1, 0, 0), 0);
        due("limit -50, led", seen("far 0; nobody 1; limit 0 - 50;", 10).odds(0, 0, 0, 0, 1, 0), 500000);
    }

    // "nobody 1 .. 9999"
    private static void nobodyIsCut() {
        String[] least = {"1", "0", "0 - 1", "0 - 9999"};
        for (String nobody : least) {
            due("nobody " + nobody, seen("far 0; limit 1; nobody " + nobody + ";", 10).odds(0, 0, 0, -1, 0, 0), 500000);
            due("nobody " + nobody + ", each", seen("far 0; limit 1; nobody " + nobody + ";", 10).odds(0, 0, 1, -1, 0, 0), 500000);
            due("nobody " + nobody + ", no weights", seen("far 0; limit 0; nobody " + nobody + ";", 10).odds(0, 0, 1, -1, 0, -1), 1000000);
        }
        due("nobody 2", seen("far 0; limit 1; nobody 2;", 10).odds(0, 0, 0, -1, 0, 0), 333333);
        String[] most = {"9999", "9999 + 1", "9999 * 3"};
        for (String nobody : most) {
            due("nobody " + nobody, seen("far 0; limit 1; nobody " + nobody + ";", 10).odds(0, 0, 0, -1, 0, 0), 100);
        }
        due("nobody 9998", seen("far 0; limit 9998; nobody 9998;", 10).odds(0, 0, 0, -1, 0, 0), 500000);
    }

    // "blur and part 0 .. 15"
    private static void blurAndPartAreCut() {
        // 17 by 16 times 16, and 7; 17 by 15 times 15, and 7; 17 by 17 times 17, and 8 would be 25
        String[] most = {"15", "16", "17", "9999"};
        for (String r : most) {
            FaceRows x = new FaceRows();
            flat(x, 0, 17);
            text(x, 0, 0, "blur " + r + ";");
            x.witness(0, 0, 0, 0, 0, 0);
            due("blur " + r, x.memory(0, 0), 23);
            due("part " + r, partOf17(r), 23);
        }
        due("part 14", partOf17("14"), 22);
        String[] least = {"0", "0 - 1", "0 - 2", "0 - 9999"};
        for (String r : least) {
            FaceRows x = new FaceRows();
            flat(x, 0, 17);
            text(x, 0, 0, "blur " + r + ";");
            x.witness(0, 0, 0, 0, 0, 0);
            due("blur " + r, x.memory(0, 0), 17);
            due("part " + r, partOf17(r), 17);
        }
        due("part 1", partOf17("1"), 16);
    }

    /** Which of many faces has the two numbers nearest to a memory of 17 that is blurred. */
    private static int partOf17(String r) {
        FaceRows x = new FaceRows();
        flat(x, 0, 17);
        int[] values = {25, 24, 16, 18, 22, 21, 17, 23};
        for (int v : values) {
            x.put(0, flat(x, 0, v));
        }
        text(x, 0, 0, "part " + r + ";");
        x.witness(0, 0, 0, 0, 0, 0);
        return x.number(x.together(0, 0), 0);
    }

    // "fade, pull .. 0 .. 100"
    private static void fadeAndPullAreCut() {
        Object[][] cases = {{"99", 30}, {"100", 31}, {"101", 31}, {"104", 31}, {"9999", 31}, {"3", 0}, {"4", 1},
            {"0", 0}, {"0 - 1", 0}, {"0 - 4", 0}, {"0 - 9999", 0}};
        for (Object[] c : cases) {
            FaceRows x = new FaceRows();
            flat(x, 0, 0);
            flat(x, 0, 31);
            x.type(0, 1);
            x.put(0, 1);
            text(x, 0, 0, "fade " + c[0] + ";");
            text(x, 0, 1, "pull " + c[0] + ";");
            x.witness(0, 0, 0, 0, 0, 0);
            x.witness(1, 0, 0, 0, 0, 0);
            x.days(1);
            due("fade " + c[0], x.memory(0, 0), (Integer) c[1]);
            due("pull is no fade", x.memory(1, 0), 0);
            x.together(1, 0);
            due("pull " + c[0], x.memory(1, 0), (Integer) c[1]);
        }
    }

    // "Ints, which wrap."
    private static void intsWrap() {
        // 9999 * 9999 * 21 + 9999 * 4790 + 8416 is 2147483647
        String most = "9999 * 9999 * 21 + 9999 * 4790 + 841";
        due("the greatest int", far(most + "6", 0), 9999);
        due("one more", far(most + "7", 0), 0);
        due("the least int, and the greatest again", far("(" + most + "7 - 1) / 9999 / 9999", 0), 21);
        due("the least int by 9999 by 9999", far("100 + (" + most + "7) / 9999 / 9999", 0), 79);
        due("a product that wraps to 0", far("4096 * 4096 * 4096", 0), 0);
        due("a product that wraps to 1", far("2047 * (4096 * 1024 + 2049) * 0 + 1", 0), 1);
        // 65536 * 65537 = 65536, modulo 2 to the 32
        due("a product that wraps", far("(8192 * 8) * (8192 * 8 + 1) / 64", 0), 1024);
        due("from below", far("0 - (" + most + "6) - 1 - 1", 0), 9999);
    }

    // "Asked are of a WITNESS secs, light, fear, days, told; of a FACE parts, whole, kin (for far, for sure);
    // gap and first for sure alone; where one of these can't be asked it is 0."
    private static void askedOfAWitness() {
        String[] lines = {"blur", "fade", "pull", "limit", "nobody", "part"};
        String[] words = {"secs", "light", "fear", "days", "told", "parts", "whole", "kin", "gap", "first"};
        int[] worth = {2, 3, 4, 5, 6, 0, 0, 0, 0, 0};
        // Steps that are wide enough to be seen, from a base
        int[] step = {1, 10, 10, 100, 100, 1};
        for (int line = 0; line < 6; line++) {
            for (int i = 0; i < 10; i++) {
                // At the sight itself there are no days yet, and nobody has praised
                int v = line == 0 && i >= 3 ? 0 : worth[i];
                String what = lines[line] + " " + words[i];
                List<Integer> got = trace(lines[line] + " " + step[line] + " * " + words[i] + " + " + step[line] + ";");
                due(what, got.equals(trace(lines[line] + " " + step[line] * (v + 1) + ";")), true);
                due(what + " is seen", got.equals(trace(lines[line] + " " + step[line] * (v + 2) + ";")), false);
            }
        }
    }

    /** What a head of one line does from the fifth day on, to a witness who was told 'good' six times. */
    private static List<Integer> trace(String head) {
        FaceRows x = new FaceRows();
        for (int v = 0; v < 32; v++) {
            flat(x, 0, v);
        }
        for (int v = 8; v < 17; v++) {
            x.put(0, v);
        }
        x.put(1, 31);
        x.type(0, 31);
        x.witness(0, 0, 12, 2, 3, 4);
        x.witness(0, 0, 0, 2, 3, 4);
        x.days(5);
        for (int i = 0; i < 6; i++) {
            x.praise(0);
            x.praise(1);
        }
        text(x, 0, 0, head);
        List<Integer> all = new ArrayList<>();
        for (int place = -1; place < 9; place++) {
            all.add(x.odds(0, 0, 0, -1, 0, place));
        }
        x.witness(0, 0, 31, 2, 3, 4);
        x.witness(0, 0, 17, 2, 3, 4);
        all.add(x.memory(2, 0));
        all.add(x.memory(3, 0));
        all.add(x.number(x.together(0, 0), 0));
        x.show(0, 1, 0, -1, 0, 0);
        all.add(x.memory(0, 0));
        x.days(1);
        all.add(x.memory(1, 0));
        return all;
    }

    private static void askedOfAFace() {
        // Faces: the one seen is of kin 0; face 1 of kin 2 has parts 3, whole 4; face 2 of kin 0 parts 7, whole 2
        FaceRows x = new FaceRows();
        flat(x, 0, 10);
        faceOf(x, 2, numbers(10, 0, 12, 11, 9, 12, 7, 15, 11));
        faceOf(x, 0, numbers(10, 5, 3, 13, 12));
        row(x, 0, 1, 2);
        x.witness(1, 2, 0, 2, 3, 4);
        x.days(5);
        for (int i = 0; i < 6; i++) {
            x.praise(0);
        }
        String[] words = {"secs", "light", "fear", "days", "told", "parts", "whole", "kin", "gap", "first"};
        int[] farOf1 = {2, 3, 4, 5, 6, 3, 4, 1, 0, 0};
        int[] farOf2 = {2, 3, 4, 5, 6, 7, 2, 0, 0, 0};
        // Usual fars: 11 and 11; so far 20 less 3 * whole for the sake of a gap: 8 and 14
        int[] sureOf1 = {2, 3, 4, 5, 6, 3, 4, 1, 6, 8};
        int[] sureOf2 = {2, 3, 4, 5, 6, 7, 2, 0, 0, 14};
        for (int i = 0; i < 10; i++) {
            text(x, 0, 1, "far " + words[i] + ";");
            due("far " + words[i] + " of 1", x.far(0, 1), farOf1[i]);
            due("far " + words[i] + " of 2", x.far(0, 2), farOf2[i]);
            text(x, 0, 1, "far 20 - 3 * whole; sure " + words[i] + ";");
            due("sure " + words[i] + " of 1", x.sure(0, 0, 0), sureOf1[i]);
            due("sure " + words[i] + " of 2", x.sure(0, 0, 1), sureOf2[i]);
        }
        text(x, 0, 1, "far days;");
        x.witness(1, 2, 0, 2, 3, 4);
        due("days of a sight in NOW", x.far(1, 0), 0);
        x.days(1);
        due("a day later", x.far(1, 0), 1);
        due("days of the first one", x.far(0, 0), 6);
    }

    // "the TYPE of the FACE's KIN is as it is then, for ever"
    private static void theTypeAsItIsThenForEver() {
        FaceRows x = new FaceRows();
        flat(x, 3, 0);
        flat(x, 0, 30);
        flat(x, 0, 20);
        text(x, 0, 0, "fade 100;");
        x.type(3, 1);
        x.witness(0, 0, 0, 0, 0, 0);
        x.type(3, 2);
        x.witness(0, 0, 0, 0, 0, 0);
        x.type(3, 0);
        x.days(1);
        due("the type as it was at the first sight", x.memory(0, 0), 30);
        due("the type as it was at the second sight", x.memory(1, 0), 20);
        x.days(1);
        due("for ever", x.memory(0, 0), 30);
    }

    // "the HEAD as it is whenever it is asked"; the sight is blurred once
    private static void theHeadAsItIsWhenAsked() {
        FaceRows x = seen("blur 4;", 10, 11);
        due("blurred at the sight", x.memory(0, 0), 12);
        text(x, 0, 0, "blur 9; far 7;");
        due("not blurred again", x.memory(0, 0), 12);
        due("far as it is now", x.far(0, 0), 7);
        text(x, 0, 0, "");
        due("far as it is then", x.far(0, 0), 40);
        text(x, 0, 1, "far 3;");
        due("another head", x.far(0, 0), 40);
    }

    // "BLURRED by r a NUMBER v is v by r + 1 times r + 1, and half r, 31 at most."
    private static void blurred() {
        int[][] cases = {{0, 0, 0}, {31, 0, 31}, {30, 1, 30}, {31, 1, 30}, {29, 2, 28}, {30, 2, 31}, {31, 2, 31},
            {29, 4, 27}, {30, 4, 31}, {31, 4, 31}, {4, 4, 2}, {5, 4, 7}, {23, 5, 20}, {24, 5, 26}, {27, 6, 24},
            {28, 6, 31}, {29, 14, 22}, {30, 14, 31}, {14, 14, 7}, {15, 14, 22}, {0, 15, 7}, {15, 15, 7}, {16, 15, 23}, {31, 15, 23}};
        for (int[] c : cases) {
            FaceRows x = new FaceRows();
            flat(x, 0, c[0]);
            text(x, 0, 0, "blur " + c[1] + ";");
            x.witness(0, 0, 0, 0, 0, 0);
            for (int j = 0; j < 16; j += 5) {
                due(c[0] + " blurred by " + c[1], x.memory(0, j), c[2]);
            }
        }
    }

    // "each is more by p hundredths of what the other one is more (towards 0)"
    private static void pulled() {
        int[][] cases = {{10, 11, 99, 10}, {10, 11, 100, 11}, {10, 9, 99, 10}, {10, 9, 100, 9}, {10, 12, 49, 10},
            {10, 12, 50, 11}, {10, 8, 49, 10}, {10, 8, 50, 9}, {0, 31, 3, 0}, {0, 31, 4, 1}, {31, 0, 3, 31}, {31, 0, 4, 30},
            {0, 31, 99, 30}, {0, 31, 100, 31}, {31, 0, 99, 1}, {31, 0, 100, 0}, {7, 7, 100, 7}, {5, 25, 0, 5}};
        for (int[] c : cases) {
            FaceRows x = new FaceRows();
            flat(x, 0, c[0]);
            flat(x, 0, c[1]);
            x.type(0, 1);
            text(x, 0, 0, "fade " + c[2] + ";");
            x.witness(0, 0, 0, 0, 0, 0);
            x.days(1);
            for (int j = 0; j < 16; j += 5) {
                due(c[0] + " pulled towards " + c[1] + " by " + c[2], x.memory(0, j), c[3]);
            }
        }
    }

    // "each MEMORY is PULLED towards its TYPE by fade (days as NOW is ahead of it). NOW is 1 more."
    private static void aDayGoesBy() {
        FaceRows x = seen("fade 100 * days;");
        x.days(1);
        due("the first day, 0 days ahead of it", x.memory(0, 0), 10);
        x.witness(0, 0, 0, 0, 0, 0);
        x.days(1);
        due("the second day, 1 ahead of it", x.memory(0, 0), 16);
        due("the first day of another one", x.memory(1, 0), 10);
        FaceRows y = seen("fade 100 * (days - 58);");
        due("sixty days at once: the last one has 59 ahead of it", y.days(60), 60);
        due("and it fades", y.memory(0, 0), 16);
        FaceRows z = seen("fade 100 * (days - 59);");
        z.days(60);
        due("none has 60 ahead of it", z.memory(0, 0), 10);
        z.days(1);
        due("but the 61st", z.memory(0, 0), 16);
    }

    // Sights, showings and what is put together are in NOW, on the first day and on the last
    private static void inNow() {
        FaceRows x = seen("", 10);
        x.show(0, 0, 0, -1, 0, 0);
        due("a showing on day 0", x.showing(0, 2), 0);
        for (int i = 0; i < 16; i++) {
            x.days(60);
        }
        x.days(39);
        x.witness(0, 0, 0, 0, 0, 0);
        x.show(0, 0, 0, -1, 0, 0);
        due("a showing on day 999", x.showing(1, 2), 999);
        text(x, 0, 0, "far days; limit 9999; nobody 1;");
        due("999 days", x.far(0, 0), 999);
        due("0 days", x.far(1, 0), 0);
        due("replayed on day 999: 9000 of 9001", x.replayed(1, 0), 999888);
        due("replayed on day 0: 9999 of 10000", x.replayed(0, -1), 999900);
    }

    // "the MEMORY is PULLED towards it by half of pull"
    private static void halfOfPull() {
        int[][] cases = {{7, 0}, {8, 1}, {0, 0}, {1, 0}, {99, 15}, {100, 15}};
        for (int[] c : cases) {
            FaceRows x = new FaceRows();
            flat(x, 0, 0);
            flat(x, 0, 31);
            x.put(0, 1);
            text(x, 0, 0, "pull " + c[0] + ";");
            x.witness(0, 0, 0, 0, 0, 0);
            x.show(0, 0, 0, -1, 0, -1);
            due("half of pull " + c[0], x.memory(0, 0), c[1]);
        }
    }

    // "for each FACE of the ROW in order .. then towards the FACE of the PICK by pull"
    private static void inOrderThenThePick() {
        int[][] rows = {{31, 0}, {0, 31}, {-1, 31, -1, 0}};
        // 0 to 31 by half: 15, to 0: 15 less 7; or to 0, then to 31: 15
        int[] want = {8, 15, 8};
        for (int i = 0; i < rows.length; i++) {
            for (int kind = 0; kind < 3; kind++) {
                FaceRows x = new FaceRows();
                flat(x, 0, 0);
                text(x, 0, 0, "pull 100;");
                x.witness(0, 0, 0, 0, 0, 0);
                for (int v : rows[i]) {
                    x.put(0, v < 0 ? -1 : flat(x, 0, v));
                }
                x.show(0, 0, kind, -1, 0, -1);
                due("in order, kind " + kind, x.memory(0, 0), want[i]);
            }
        }
        FaceRows x = new FaceRows();
        flat(x, 0, 0);
        flat(x, 0, 31);
        row(x, 0, 1, 0);
        text(x, 0, 0, "pull 50;");
        x.witness(0, 0, 0, 0, 0, 0);
        x.show(0, 0, 0, -1, 0, 0);
        // by 25: 7 (7.75), 7 less 1 (1.75) is 6; by 50 of 25: 12
        due("the pick behind all", x.memory(0, 0), 18);
        x.show(0, 0, 2, 0, 99, -1);
        // to 31: 13 by 25 is 3: 21; to 0: 21 by 25 is 5: 16
        due("a drawn one has no pick, and a lead does nothing", x.memory(0, 0), 16);
        x.show(0, 2, 0, -1, 0, -1);
        due("an empty row does nothing", x.memory(0, 0), 16);
    }

    // "a PLACE's WEIGHT is limit less FAR (0 at least ..), and PUSH more, if it is LED to"
    private static void weights() {
        int[] fars = {0, 98, 99, 100, 101, 9999};
        int[] weights = {100, 2, 1, 0, 0, 0};
        for (int i = 0; i < fars.length; i++) {
            FaceRows x = seen("limit 100; nobody 10; far " + fars[i] + ";", 10);
            for (int kind = 0; kind < 2; kind++) {
                due("far " + fars[i], x.odds(0, 0, kind, -1, 0, 0), 1000000 * weights[i] / (weights[i] + 10));
                due("far " + fars[i] + ", push without a lead", x.odds(0, 0, kind, -1, 99, 0), 1000000 * weights[i] / (weights[i] + 10));
                for (int push = 0; push < 100; push += 33) {
                    int weight = weights[i] + push;
                    due("far " + fars[i] + ", push " + push, x.odds(0, 0, kind, 0, push, 0), 1000000 * weight / (weight + 10));
                    due("and nobody", x.odds(0, 0, kind, 0, push, -1), 1000000 - 1000000 * weight / (weight + 10));
                }
            }
        }
        FaceRows x = seen("limit 100; nobody 10; far 90;", 10, 10);
        due("led to the other one", x.odds(0, 0, 0, 1, 80, 0), 10000000 / 110);
        due("led to this one", x.odds(0, 0, 0, 1, 80, 1), 90000000 / 110);
        due("each, the first is as it is", x.odds(0, 0, 1, 1, 80, 0), 500000);
        due("each, 90 of 100 of what is left", x.odds(0, 0, 1, 1, 80, 1), 450000);
    }

    // "nobody there: 0", though the PLACE is LED to
    private static void nobodyThere() {
        FaceRows x = seen("", 10, -1);
        for (int kind = 0; kind < 2; kind++) {
            due("nobody there", x.odds(0, 0, kind, -1, 0, 1), 0);
            due("nobody there, led", x.odds(0, 0, kind, 1, 99, 1), 0);
            due("the other one", x.odds(0, 0, kind, 1, 99, 0), 100000000 / 110);
            due("what is left", x.odds(0, 0, kind, 1, 99, -1), 1000000 - 100000000 / 110);
        }
        row(x, 0, -1, -1);
        due("nobody at all, led", x.odds(0, 0, 0, 0, 99, -1), 1000000);
        x.show(0, 0, 0, 0, 99, -1);
        due("shown so", x.showing(0, 4), 1000000);
    }

    // "Nobody is picked with what is left."; "takes of what is left (1000000 at first)"
    private static void whatIsLeft() {
        FaceRows x = seen("far 0; limit 9999; nobody 1;", 10, 10, 10, 10, 10, 10, 10, 10, 10);
        int[] each = {999900, 99, 0, 0, 0, 0, 0, 0, 0};
        int sum = 0;
        for (int place = 0; place < 9; place++) {
            due("each, place " + place, x.odds(0, 0, 1, -1, 0, place), each[place]);
            due("together, place " + place, x.odds(0, 0, 0, -1, 0, place), (int) (9999000000L / (9 * 9999 + 1)));
            sum += x.odds(0, 0, 0, -1, 0, place);
        }
        due("each, nobody", x.odds(0, 0, 1, -1, 0, -1), 1);
        due("together, nobody", x.odds(0, 0, 0, -1, 0, -1), 1000000 - sum);
        due("the greatest weight, led", x.odds(0, 0, 1, 0, 99, 0), (int) (10098000000L / 10099));
        due("the last place, led", x.odds(0, 0, 0, 8, 99, 8), (int) (10098000000L / (9 * 9999 + 100)));
        FaceRows y = seen("far 100;", 10, 11);
        due("no weights: all is left", y.odds(0, 0, 0, -1, 0, -1), 1000000);
        due("no weights: all is left, each", y.odds(0, 0, 1, -1, 0, -1), 1000000);
    }

    // "gap the least FAR of the FACES at the ROW's other PLACES less that (0 at least, and without others)"
    private static void gapAndFirst() {
        // Fars: 12 and 8 of tens: 40; 11: 20; 10: 0
        FaceRows x = seen("sure gap + 50;", 12, 11, 10, -1);
        due("the first of 40, 20, 0", x.sure(0, 0, 0), 50);
        due("the second", x.sure(0, 0, 1), 50);
        due("the third", x.sure(0, 0, 2), 70);
        FaceRows y = seen("far parts; sure gap + 50;");
        int one = faceOf(y, 0, numbers(10, 0, 13));
        int less = faceOf(y, 0, numbers(10, 0, 12));
        int more = faceOf(y, 0, numbers(10, 0, 14));
        int[][] rows = {{one}, {one, -1}, {one, one}, {one, less}, {one, more}, {one, more, less}, {one, 0, more}, {one, more, more, -1}};
        int[] want = {50, 50, 50, 50, 51, 50, 50, 51};
        for (int i = 0; i < rows.length; i++) {
            row(y, 1, rows[i]);
            due("gap in row " + i, y.sure(0, 1, 0), want[i]);
        }
        text(y, 0, 0, "far parts; sure first + 50;");
        due("first of " + one, y.sure(0, 1, 0), 53);
        due("first of " + more, y.sure(0, 1, 1), 54);
        due("gap and first are of the places, not of the faces: nobody", y.sure(0, 1, 3), -1);
    }

    // "TOLD 'good' a WITNESS may be: told is 1 more (9 at most)."
    private static void toldAtMostNine() {
        FaceRows x = seen("far told; pull told;", 10);
        x.witness(0, 0, 0, 0, 0, 0);
        for (int i = 1; i <= 12; i++) {
            due("told", x.praise(0), Math.min(9, i));
            due("told as it is asked", x.far(0, 0), Math.min(9, i));
            due("another one is not told", x.far(1, 0), 0);
        }
    }

    // "of a ROW (as it is then)"
    private static void theRowAsItIsThen() {
        FaceRows x = seen("", 10, 11, -1);
        x.show(0, 0, 0, -1, 0, 1);
        x.clear(0);
        due("place 0", x.showing(0, 10), 1);
        due("place 1", x.showing(0, 11), 2);
        due("nobody", x.showing(0, 12), -1);
        for (int i = 0; i < 9; i++) {
            x.put(0, 0);
        }
        due("place 0 as it was", x.showing(0, 10), 1);
        due("place 3: none such", x.showing(0, 13), -1);
        x.show(0, 0, 0, -1, 0, 8);
        due("place 8", x.showing(1, 18), 0);
        due("its pick", x.showing(1, 3), 8);
        due("what 19", x.showing(1, 19), -1);
    }

    // "4 its ODDS as they were ahead of it (KIND 2: 0), 5 SURE as it was ahead of it (NONE without a PICK)"
    private static void asItWasAheadOfIt() {
        FaceRows x = seen("pull 100; sure 60 - first;", 12, 14);
        x.show(0, 0, 0, -1, 0, 0);
        due("odds ahead: 60 of 90", x.showing(0, 4), 60000000 / 90);
        due("sure ahead: 60 less 40", x.showing(0, 5), 20);
        due("now it is what was picked", x.memory(0, 0), 12);
        due("odds now: 100 of 170", x.odds(0, 0, 0, -1, 0, 0), 100000000 / 170);
        due("sure now", x.sure(0, 0, 0), 60);
        x.show(0, 0, 1, 0, 10, -1);
        due("nobody's odds, each: 110 of 120, 60 of 70", x.showing(1, 4), 1000000 - 916666 - 83334 * 6 / 7);
        due("no sure without a pick", x.showing(1, 5), -1);
        due("no pick", x.showing(1, 3), -1);
        x.show(0, 0, 2, 0, 10, -1);
        due("drawn: 0", x.showing(2, 4), 0);
        due("drawn: no sure", x.showing(2, 5), -1);
        due("drawn: no pick", x.showing(2, 3), -1);
    }

    // "of each PART that of the first FACE of those by whose two NUMBERS the differences .. are least together"
    private static void putTogether() {
        for (int part = 0; part < 6; part++) {
            FaceRows x = new FaceRows();
            flat(x, 4, 10);
            // 2 and 0 away; 1 and 1; 0 and 1; 1 and 0
            faceOf(x, 1, numbers(20, 2 * part, 12, 2 * part + 1, 10));
            faceOf(x, 1, numbers(20, 2 * part, 11, 2 * part + 1, 9));
            faceOf(x, 1, numbers(20, 2 * part, 10, 2 * part + 1, 9));
            faceOf(x, 1, numbers(20, 2 * part, 9, 2 * part + 1, 10));
            x.witness(0, 0, 0, 0, 0, 0);
            int[][] rows = {{1, 2}, {2, 1}, {1, 2, 3, 4}, {1, -1, 4, 3}, {-1, 2}};
            int[] first = {12, 11, 10, 9, 11};
            for (int i = 0; i < rows.length; i++) {
                row(x, 0, rows[i]);
                int made = x.together(0, 0);
                due("part " + part + " of row " + i, x.number(made, 2 * part), first[i]);
                due("its other number", x.number(made, 2 * part + 1), first[i] == 12 || first[i] == 9 ? 10 : 9);
                due("another part", x.number(made, (2 * part + 2) % 12), 20);
                due("made by", x.number(made, 17), 0);
                due("of the kin of the face seen", x.number(made, 16), 4);
            }
            due("faces that were made", x.look(6), 5);
        }
    }

    // Each of the two NUMBERS is held against that of the MEMORY
    private static void bothNumbersOfAPart() {
        for (int part = 0; part < 6; part++) {
            FaceRows x = new FaceRows();
            faceOf(x, 0, numbers(10, 2 * part, 5, 2 * part + 1, 25));
            int[][] pairs = {{5, 24}, {24, 5}, {5, 5}, {25, 25}, {7, 25}};
            for (int[] pair : pairs) {
                x.put(0, faceOf(x, 0, numbers(10, 2 * part, pair[0], 2 * part + 1, pair[1])));
            }
            x.witness(0, 0, 0, 0, 0, 0);
            int made = x.together(0, 0);
            due("the first number of part " + part, x.number(made, 2 * part), 5);
            due("the second number of part " + part, x.number(made, 2 * part + 1), 24);
            text(x, 0, 0, "part 9;");
            // 5 and 25 blurred are 4 and 24: 39, 20 and 4 away
            row(x, 0, 2, 3, 5);
            made = x.together(0, 0);
            due("blurred, the first number of part " + part, x.number(made, 2 * part), 7);
        }
    }

    // "of the WHOLE each NUMBER is that of the six FACES whose PARTS were taken, added, by 6"
    private static void theWholeBySix() {
        int[][] cases = {{0, 0, 0}, {5, 0, 0}, {6, 0, 1}, {0, 1, 0}, {1, 1, 1}, {11, 0, 1}, {1, 2, 1}, {2, 2, 2},
            {31, 1, 6}, {30, 25, 25}, {31, 25, 26}, {31, 31, 31}};
        for (int[] c : cases) {
            FaceRows x = new FaceRows();
            flat(x, 0, 10);
            // The first one is taken for part 0 alone, the other one for the five others
            faceOf(x, 0, numbers(20, 0, 10, 1, 10, 12, c[0], 13, c[0], 14, c[0], 15, c[0]));
            faceOf(x, 0, numbers(11, 0, 30, 1, 30, 12, c[1], 13, c[1], 14, c[1], 15, c[1]));
            row(x, 0, 1, 2);
            x.witness(0, 0, 0, 0, 0, 0);
            int made = x.together(0, 0);
            for (int j = 12; j < 16; j++) {
                due("one " + c[0] + " and five " + c[1] + " by 6", x.number(made, j), c[2]);
            }
            due("part 0", x.number(made, 0), 10);
            due("part 5", x.number(made, 11), 11);
        }
    }

    // "that with the least FAR (the first), P, and the next one (the first of the others), Q (P, if there is no other)"
    private static void bredPicks() {
        FaceRows x = new FaceRows();
        flat(x, 0, 10);
        int one = flat(x, 0, 12);
        int other = flat(x, 0, 8);
        int far = flat(x, 0, 31);
        int near = faceOf(x, 0, numbers(10, 0, 11));
        x.witness(0, 0, 0, 0, 0, 0);
        int[][] rows = {{one, near}, {near, one}, {-1, far, -1, near, -1}, {one}, {far, other, one}};
        int[] least = {1, 1, 1, 32, 32};
        for (int i = 0; i < rows.length; i++) {
            row(x, 0, rows[i]);
            due("P of row " + i, x.bred(0, 0, least[i]), 1);
            due("not less than P of row " + i, x.bred(0, 0, least[i] - 1) != 1, true);
        }
        // All are alike by far: P is the first place's
        text(x, 0, 0, "far 7;");
        row(x, 0, -1, far, near, one);
        due("the first of equals", x.bred(0, 0, 21 * 16), 1);
        due("not another one", x.bred(0, 0, 21 * 16 - 1), -1);
        row(x, 0, near, far, one);
        due("the first of equals, near", x.bred(0, 0, 1), 1);
    }

    /** A row of P and Q, and a sight so that the child i of the first round is just the face seen. */
    private static FaceRows childSeen(int p, int q, int[] child) {
        FaceRows x = new FaceRows();
        faceOf(x, 0, child);
        flat(x, 0, p);
        flat(x, 0, q);
        x.witness(0, 0, 0, 0, 0, 0);
        return x;
    }

    // "the i-th (0 .. 8) .. has of each NUMBER j that of P, if bit (i + j) modulo 3 of i is 0, else half of both together"
    private static void bredChildren() {
        int[][] halves = {{}, {2, 5, 8, 11, 14}, {2, 5, 8, 11, 14}, {0, 1, 3, 4, 6, 7, 9, 10, 12, 13, 15}, {1, 4, 7, 10, 13},
            {0, 1, 3, 4, 6, 7, 9, 10, 12, 13, 15}, {1, 2, 4, 5, 7, 8, 10, 11, 13, 14}, {0, 1, 2, 3, 4, 5, 6, 7, 8, 9, 10, 11, 12, 13, 14, 15}, {}};
        // 5 i + 1, modulo 16
        int[] changed = {-1, 6, 11, 0, 5, 10, 15, 4, 9};
        for (int i = 1; i < 9; i++) {
            // P is 12; Q is 8 (halves are 10) or 9 (halves, towards 0, are 10 too; nearer to child 7 than P)
            for (int odd = 0; odd < (i == 7 ? 1 : 2); odd++) {
                int[] child = numbers(12);
                for (int j : halves[i]) {
                    child[j] = 10;
                }
                child[changed[i]] += i % 2 == 1 ? 2 : -2;
                FaceRows x = childSeen(12, 8 + odd, child);
                due("P is the nearer one, child " + i, x.far(0, 1) < x.far(0, 2), true);
                row(x, 0, 1, 2);
                due("child " + i, x.bred(0, 0, 0), 2);
                row(x, 0, 2, 1);
                due("child " + i + ", P behind Q", x.bred(0, 0, 0), 2);
                due("children are not kept", x.look(1), 3);
            }
        }
        // P, or Q, at the ninth place
        for (int last = 0; last < 2; last++) {
            int[] child = numbers(10, 4, 12);
            FaceRows nine = childSeen(12, 8, child);
            int far = flat(nine, 0, 31);
            row(nine, 0, far, far, far, far, far, far, far, last == 0 ? 2 : 1, last == 0 ? 1 : 2);
            due("child 7, of the last two of nine", nine.bred(0, 0, 0), 2);
        }
        // Child 8 is picked, and the next rounds go on from it: number 9 is 2 less in round 1 by child 8
        // (41 less 32), and next in round 5 by child 4 (25 less 16)
        FaceRows eight = new FaceRows();
        faceOf(eight, 0, numbers(10, 9, 6));
        flat(eight, 0, 10);
        eight.put(0, 1);
        eight.witness(0, 0, 0, 0, 0, 0);
        due("child 8 in round 2", eight.bred(0, 0, 2), 2);
        due("child 4 of round 5", eight.bred(0, 0, 0), 6);
        // Child 0 is P as it is
        FaceRows x = new FaceRows();
        flat(x, 0, 10);
        faceOf(x, 0, numbers(10, 0, 11));
        flat(x, 0, 31);
        x.witness(0, 0, 0, 0, 0, 0);
        text(x, 0, 0, "far parts * 10 + whole * 10;");
        row(x, 0, 1, 2);
        due("1 at first", x.bred(0, 0, 1), 1);
    }

    // "for i from 1 on NUMBER (5 i + round) modulo 16 is 2 more, if i is odd, else 2 less (0 .. 31)"
    private static void bredChanges() {
        // A single face of tens, but for one number: the sight has 2 more or 2 less there
        int[] more = {3, -1, -1, -1, 7, -1, 1, -1, -1, -1, 5, -1, -1, -1, -1, -1};
        int[] less = {-1, -1, -1, -1, -1, 4, -1, -1, -1, 8, -1, 2, -1, -1, -1, 6};
        for (int j = 0; j < 16; j++) {
            FaceRows x = new FaceRows();
            flat(x, 0, 10);
            faceOf(x, 0, numbers(10, j, 12));
            faceOf(x, 0, numbers(10, j, 8));
            x.put(0, 0);
            x.witness(0, 0, 1, 0, 0, 0);
            x.witness(0, 0, 2, 0, 0, 0);
            due("number " + j + " is 2 more in round 1", x.bred(0, 0, 0) == 2, more[j] > 0);
            due("number " + j + " is 2 less in round 1", x.bred(1, 0, 0) == 2, less[j] > 0);
            due("2 away at first", x.bred(0, 0, 2), 1);
            due("not 1 away at first", x.bred(1, 0, 1) > 1, true);
        }
        // Number 0 by child 3 in round 1; number 15 by child 6
        int[][] cases = {{0, 29, 31, 2}, {0, 30, 31, 2}, {0, 31, 31, 1}, {0, 28, 30, 2}, {15, 2, 0, 2}, {15, 1, 0, 2}, {15, 0, 0, 1}, {15, 3, 1, 2}};
        for (int[] c : cases) {
            FaceRows x = new FaceRows();
            faceOf(x, 0, numbers(10, c[0], c[2]));
            faceOf(x, 0, numbers(10, c[0], c[1]));
            x.put(0, 1);
            x.witness(0, 0, 0, 0, 0, 0);
            due(c[1] + " to " + c[2], x.bred(0, 0, 0), c[3]);
        }
        // 2 more than 30 is 31, and no more: not 32, nor back at 0
        FaceRows x = new FaceRows();
        faceOf(x, 0, numbers(10, 0, 0));
        faceOf(x, 0, numbers(10, 0, 31));
        x.put(0, 1);
        x.witness(0, 0, 0, 0, 0, 0);
        due("31 does not come round", x.bred(0, 0, 30), 3);
    }

    // "ROUNDS (1 .. 30)": number 1 is 2 less by even children in rounds 3, 7, 9, 13, 19, 23, 25 and 29
    private static void bredRounds() {
        FaceRows x = new FaceRows();
        faceOf(x, 0, numbers(0));
        faceOf(x, 0, numbers(0, 1, 16));
        x.put(0, 1);
        x.witness(0, 0, 0, 0, 0, 0);
        int[] rounds = {4, 8, 10, 14, 20, 24, 26, 30};
        due("reach 16", x.bred(0, 0, 16), 1);
        for (int i = 0; i < 8; i++) {
            due("reach " + (15 - 2 * i), x.bred(0, 0, 15 - 2 * i), rounds[i]);
            due("reach " + (14 - 2 * i), x.bred(0, 0, 14 - 2 * i), rounds[i]);
        }
        // Number 2 a round later each: the eighth time would be round 31
        FaceRows y = new FaceRows();
        faceOf(y, 0, numbers(0));
        faceOf(y, 0, numbers(0, 2, 16));
        y.put(0, 1);
        y.witness(0, 0, 0, 0, 0, 0);
        due("round 27", y.bred(0, 0, 2), 27);
        due("round 31 is too late", y.bred(0, 0, 1), -1);
        due("and so is any later one", y.bred(0, 0, 0), -1);
        due("reach 999 is round 1", y.bred(0, 0, 999), 1);
    }
}
