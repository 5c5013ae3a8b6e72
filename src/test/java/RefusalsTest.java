import java.nio.charset.StandardCharsets;
import java.util.ArrayList;
import java.util.List;

/** A call that is refused answers NONE (or false) and leaves an object as one of the same story without it. */
public final class RefusalsTest {
    private static final int[] ODD = {Integer.MIN_VALUE, -1000, -2, 1000, 1 << 16, Integer.MAX_VALUE};

    private static int wrong;
    private static int checks;
    private static List<Long> before;

    public static void main(String[] args) {
        before = sight(story());
        for (int odd : ODD) {
            numbersThatCantBe(odd);
        }
        fullHouses();
        System.out.println("RefusalsTest: " + checks + " checks, " + wrong + " wrong");
        if (wrong != 0) {
            System.exit(1);
        }
    }

    private static void due(String what, long got, long want) {
        checks++;
        if (got != want) {
            wrong++;
            System.out.println(what + ": answered " + got + ", due is " + want);
        }
    }

    private static void text(FaceRows x, int sort, int k, String text) {
        byte[] bytes = text.getBytes(StandardCharsets.ISO_8859_1);
        x.end(0);
        for (int i = 0; i < bytes.length; i += 20) {
            int[] five = new int[5];
            for (int j = 0; j < 20; j++) {
                five[j / 4] |= (i + j < bytes.length ? bytes[i + j] & 255 : ' ') << 24 - 8 * (j % 4);
            }
            x.feed(five[0], five[1], five[2], five[3], five[4]);
        }
        x.end(bytes.length);
        x.text(sort, k);
    }

    private static FaceRows story() {
        FaceRows x = new FaceRows();
        for (int i = 0; i < 6; i++) {
            x.face(i % 3, i * 0x03020105, i * 0x01020304, i * 0x04030201, i * 0x02020202);
        }
        text(x, 0, 0, "blur 2;fade 10;pull 40;limit 400;part 1;sure gap;");
        text(x, 1, 0, "no 0 > 5;no 3 < 20;");
        text(x, 2, 1, "each;led 20;praise;");
        int[] places = {0, 1, -1, 2, 3};
        for (int face : places) {
            x.put(0, face);
        }
        x.put(1, 4);
        x.witness(0, 1, 1, 30, 4, 5);
        x.days(2);
        x.witness(1, 0, 2, 60, 7, 2);
        x.show(0, 0, 0, 1, 30, 1);
        x.together(0, 0);
        x.days(3);
        x.show(0, 0, 1, -1, 0, -1);
        x.show(1, 1, 2, -1, 0, -1);
        x.world(0, 0, 3, 10, 5, 5, 9, 0, 1);
        x.praise(0);
        text(x, 0, 2, "far !");
        x.feed(0x70756C6C, 0x20383B20, 0x20202020, 0x20202020, 0x20202020);
        return x;
    }

    /** What can be seen of an object; the last of it changes the object. */
    private static List<Long> sight(FaceRows x) {
        List<Long> all = new ArrayList<>();
        for (int what = 0; what < 7; what++) {
            all.add((long) x.look(what));
        }
        all.add((long) x.fault(0));
        all.add((long) x.fault(1));
        for (int j = 0; j < 16; j++) {
            all.add((long) x.memory(0, j));
            all.add((long) x.memory(1, j));
            all.add((long) x.number(6, j));
        }
        for (int place = -1; place < 5; place++) {
            all.add((long) x.odds(0, 0, 0, -1, 0, place));
            all.add((long) x.odds(1, 0, 1, 1, 50, place));
            all.add((long) x.sure(0, 0, place));
            all.add((long) x.mock(0, place, 1));
        }
        for (int what = 0; what < 6; what++) {
            all.add((long) x.showing(0, what));
            all.add((long) x.showing(1, what));
            all.add((long) x.showing(2, what));
        }
        for (int way = 0; way < 4; way++) {
            all.add(x.way(way, 0));
            all.add(x.way(way, 1));
            all.add(x.way(way, 20));
        }
        all.add((long) x.replayed(1, 0));
        all.add((long) x.replayed(1, -1));
        all.add((long) x.spoilt(1));
        all.add((long) x.both(0, 1, 0, 0, 0));
        all.add((long) x.put(1, -1));
        all.add((long) x.put(2, -1));
        all.add((long) x.praise(0));
        all.add((long) x.text(0, 0));
        x.days(1);
        all.add((long) x.memory(0, 0));
        all.add((long) x.memory(1, 0));
        return all;
    }

    private static void numbersThatCantBe(int odd) {
        FaceRows x = story();
        due("face", x.face(odd, 1, 2, 3, 4), -1);
        due("number", x.number(odd, 0), -1);
        due("number j", x.number(0, odd), -1);
        due("type", x.type(odd, 0) ? 1 : 0, 0);
        due("type face", x.type(0, odd) ? 1 : 0, 0);
        due("put", x.put(odd, 0), -1);
        due("put face", x.put(0, odd), -1);
        due("clear", x.clear(odd) ? 1 : 0, 0);
        due("end", x.end(odd) ? 1 : 0, 0);
        due("fault", x.fault(odd), -1);
        due("days", x.days(odd), -1);
        for (int i = 0; i < 6; i++) {
            int[] c = {0, 0, 0, 0, 0, 0};
            c[i] = odd;
            due("witness " + i, x.witness(c[0], c[1], c[2], c[3], c[4], c[5]), -1);
            due("odds " + i, x.odds(c[0], c[1], c[2], c[3], c[4], c[5]), -1);
            due("show " + i, x.show(c[0], c[1], c[2], c[3], c[4], c[5]), -1);
        }
        for (int i = 0; i < 9; i++) {
            int[] c = {0, 0, 0, 0, 0, 0, 0, 0, 0};
            c[i] = odd;
            due("world " + i, x.world(c[0], c[1], c[2], c[3], c[4], c[5], c[6], c[7], c[8]), -1);
        }
        for (int i = 0; i < 5; i++) {
            int[] c = {0, 1, 0, 0, 1};
            c[i] = odd;
            due("both " + i, x.both(c[0], c[1], c[2], c[3], c[4]), -1);
        }
        for (int i = 0; i < 3; i++) {
            int[] c = {0, 0, 1};
            c[i] = odd;
            due("sure " + i, i == 2 ? x.sure(0, 0, odd) : x.sure(c[0], c[1], 0), -1);
            due("known " + i, x.known(c[0], c[1], c[2]), -1);
            due("mock " + i, x.mock(c[0], c[1], c[2]), -1);
            due("fillers " + i, x.fillers(c[0], c[1], c[2]), -1);
            due("tried " + i, x.tried(c[0], c[1], c[2]), -1);
            due("bred " + i, x.bred(c[0], c[1], i == 2 ? odd : 999), -1);
        }
        oddPairs(x, odd);
        due("what is seen after refusals of " + odd, sight(x).equals(before) ? 1 : 0, 1);
    }

    private static void oddPairs(FaceRows x, int odd) {
        due("memory", x.memory(odd, 0), -1);
        due("memory j", x.memory(0, odd), -1);
        due("far", x.far(odd, 0), -1);
        due("far face", x.far(0, odd), -1);
        due("showing", x.showing(odd, 0), -1);
        due("showing what", x.showing(0, odd), -1);
        due("praise", x.praise(odd), -1);
        due("together", x.together(odd, 0), -1);
        due("together row", x.together(0, odd), -1);
        due("together without a face", x.together(0, 3), -1);
        due("score", x.score(odd), -1);
        due("way", x.way(odd, 0), -1);
        due("way what", x.way(0, odd), -1);
        due("replayed", x.replayed(odd, -1), -1);
        due("replayed j", x.replayed(1, odd), -1);
        due("spoilt", x.spoilt(odd), -1);
        due("look", x.look(odd), -1);
    }

    private static void fullHouses() {
        FaceRows x = new FaceRows();
        for (int i = 0; i < 20; i++) {
            x.feed(i, i, i, i, i);
        }
        due("feed", x.feed(1, 1, 1, 1, 1), -1);
        due("the tape as it was", x.end(401) ? 1 : 0, 0);
        due("all of it", x.end(400) ? 1 : 0, 1);
        for (int sort = -1; sort < 4; sort++) {
            due("text that is none", x.text(sort, 9), -1);
            due("without a fault", x.fault(0), 0);
            due("without a place", x.fault(1), -1);
            due("the tape is empty", x.end(1) ? 1 : 0, 0);
        }
        // A tape full of the dearest that it can hold
        text(x, 0, 0, "far " + "((((((((1))))))))+".repeat(21) + "((((1))));" + "pull 9;");
        due("a long text", x.fault(0), 0);
        text(x, 0, 0, "far " + "1-".repeat(197) + "1;");
        due("a longer text", x.fault(0), 0);
        x.face(0, 0, 0, 0, 0);
        x.witness(0, 0, 0, 0, 0, 0);
        due("it comes to less than 0", x.far(0, 0), 0);
        text(x, 1, 0, "no".repeat(200));
        due("a long word", x.fault(0), 1);
        due("at its begin", x.fault(1), 0);
        text(x, 1, 0, "9".repeat(400));
        due("a long number", x.fault(0), 1);
        text(x, 2, 0, "(".repeat(400));
        due("many signs", x.fault(0), 1);
        text(x, 0, 0, "far " + "(".repeat(396));
        due("many open ones", x.fault(0), 3);
        due("the ninth", x.fault(1), 12);
    }
}
