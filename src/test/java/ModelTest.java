import java.nio.charset.StandardCharsets;
import java.util.Random;
import java.util.function.LongSupplier;

/** Holds the class against the Model on many runs of chosen and of random calls (the seeds are fixed). */
public final class ModelTest {
    private static final int RUNS = Integer.getInteger("runs", 1500);
    private static final int CALLS = 512;

    private static int wrong;

    private final Random dice;
    private final int run;
    private final FaceRows x = new FaceRows();
    private final Model m = new Model();
    private final StringBuilder story = new StringBuilder();
    private int calls;

    private ModelTest(int run) {
        this.run = run;
        dice = new Random(run);
    }

    public static void main(String[] args) {
        for (int run = 0; run < RUNS && wrong < 5; run++) {
            new ModelTest(run).play();
        }
        System.out.println(wrong == 0 ? "ModelTest: all answers are as the model's" : "ModelTest: " + wrong + " runs differ");
        if (wrong != 0) {
            System.exit(1);
        }
    }

    private boolean due(String call, long got, LongSupplier model, long refused) {
        calls++;
        long want;
        try {
            want = model.getAsLong();
        } catch (Model.Refused e) {
            want = refused;
        }
        story.append(call).append(" = ").append(want).append('\n');
        if (got != want) {
            wrong++;
            System.out.println(story + "run " + run + ": " + call + " answered " + got + ", due is " + want);
        }
        return got == want;
    }

    private int in(int least, int most) {
        return least + dice.nextInt(most - least + 1);
    }

    /** Mostly a number that can be; now and then one beside it, or any. */
    private int about(int least, int most) {
        int luck = dice.nextInt(240);
        if (luck == 0) {
            return dice.nextInt();
        }
        if (luck == 1) {
            return least - 1;
        }
        if (luck == 2) {
            return most + 1;
        }
        return least > most ? least : in(least, most);
    }

    private void play() {
        int faces = dice.nextInt(20) == 0 ? 0 : in(3, 14);
        for (int i = 0; i < faces; i++) {
            step(0);
        }
        for (int i = 0; i < 8; i++) {
            if (dice.nextInt(5) > 0) {
                feedText(i % 4, i < 4 ? 0 : 2);
            }
        }
        if (dice.nextBoolean()) {
            feedText(0, 1);
        }
        for (int i = in(0, 40); i > 0; i--) {
            step(3);
        }
        for (int i = in(0, 6); i > 0; i--) {
            step(7);
        }
        int liked = in(0, 23);
        while (calls < CALLS - 1) {
            int which = dice.nextInt(3) == 0 ? liked : in(0, 23);
            if (!step(which)) {
                return;
            }
        }
        step(23);
    }

    private boolean step(int which) {
        int faceCount = m.faces.size();
        int row = about(0, 5);
        int face = about(0, faceCount - 1);
        int w = about(0, m.witnesses.size() - 1);
        int places = row >= 0 && row < 6 ? m.rows.get(row).size() : 0;
        int place = about(-1, places - 1);
        int led = dice.nextInt(3) == 0 ? -1 : about(0, places - 1);
        int push = about(0, 99);
        int kind = about(0, 2);
        switch (which) {
            case 0: {
                int kin = about(0, 5), a = dice.nextInt(), b = dice.nextInt(), c = dice.nextInt(), d = dice.nextInt();
                if (faceCount > 0 && dice.nextInt(3) == 0) {
                    // Near another one, so that there are ties and small differences.
                    int[] n = m.faces.get(dice.nextInt(faceCount)).numbers();
                    a = four(n, 0);
                    b = four(n, 4) ^ dice.nextInt(3);
                    c = four(n, 8);
                    d = four(n, 12) ^ dice.nextInt(2);
                }
                int fa = a, fb = b, fc = c, fd = d;
                return due("face(" + kin + ", " + a + ", " + b + ", " + c + ", " + d + ")", x.face(kin, a, b, c, d), () -> m.face(kin, fa, fb, fc, fd), -1);
            }
            case 1: {
                int j = about(0, 17);
                return due("number(" + face + ", " + j + ")", x.number(face, j), () -> m.number(face, j), -1);
            }
            case 2: {
                int kin = about(0, 5);
                return due("type(" + kin + ", " + face + ")", x.type(kin, face) ? 1 : 0, () -> m.type(kin, face), 0);
            }
            case 3: {
                int who = dice.nextInt(5) == 0 ? -1 : face;
                return due("put(" + row + ", " + who + ")", x.put(row, who), () -> m.put(row, who), -1);
            }
            case 4: {
                if (dice.nextInt(6) > 0) {
                    return step(in(8, 22));
                }
                return due("clear(" + row + ")", x.clear(row) ? 1 : 0, () -> m.clear(row), 0);
            }
            case 5:
                return dice.nextInt(4) > 0 || feedText(about(0, 3), about(0, 2));
            case 6: {
                int n = about(1, dice.nextInt(3) == 0 ? 60 : 6);
                return due("days(" + n + ")", x.days(n), () -> m.days(n), -1);
            }
            case 7: {
                int head = about(0, 3), kin = about(0, 5), secs = about(0, 999), light = about(0, 9), fear = about(0, 9);
                return due("witness(" + head + ", " + kin + ", " + face + ", " + secs + ", " + light + ", " + fear + ")",
                    x.witness(head, kin, face, secs, light, fear), () -> m.witness(head, kin, face, secs, light, fear), -1);
            }
            case 8: {
                int j = about(0, 15);
                return due("memory(" + w + ", " + j + ")", x.memory(w, j), () -> m.memory(w, j), -1);
            }
            case 9:
                return due("far(" + w + ", " + face + ")", x.far(w, face), () -> m.far(w, face), -1);
            case 10:
                return due("odds(" + w + ", " + row + ", " + kind + ", " + led + ", " + push + ", " + place + ")",
                    x.odds(w, row, kind, led, push, place), () -> m.odds(w, row, kind, led, push, place), -1);
            case 11: {
                int pick = kind == 2 && dice.nextInt(5) > 0 ? -1 : place;
                return due("show(" + w + ", " + row + ", " + kind + ", " + led + ", " + push + ", " + pick + ")",
                    x.show(w, row, kind, led, push, pick), () -> m.show(w, row, kind, led, push, pick), -1);
            }
            case 12: {
                int i = about(0, m.showings.size() - 1), what = dice.nextBoolean() ? about(0, 5) : about(10, 18);
                return due("showing(" + i + ", " + what + ")", x.showing(i, what), () -> m.showing(i, what), -1);
            }
            case 13:
                return due("praise(" + w + ")", x.praise(w), () -> m.praise(w), -1);
            case 14:
                return due("sure(" + w + ", " + row + ", " + place + ")", x.sure(w, row, place), () -> m.sure(w, row, place), -1);
            case 15:
                return due("together(" + w + ", " + row + ")", x.together(w, row), () -> m.together(w, row), -1);
            case 16: {
                int what = about(0, 1);
                return due("known(" + w + ", " + face + ", " + what + ")", x.known(w, face, what), () -> m.known(w, face, what), -1);
            }
            case 17: {
                int reach = about(0, dice.nextInt(5) > 0 ? 60 : 999);
                return due("bred(" + w + ", " + row + ", " + reach + ")", x.bred(w, row, reach), () -> m.bred(w, row, reach), -1);
            }
            case 18: {
                int what = about(0, 1);
                if (dice.nextBoolean()) {
                    return due("score(" + face + ")", x.score(face), () -> m.score(face), -1);
                }
                return due("mock(" + row + ", " + place + ", " + what + ")", x.mock(row, place, what), () -> m.mock(row, place, what), -1);
            }
            case 19: {
                int k = about(1, dice.nextInt(4) == 0 ? 8 : 4);
                return due("fillers(" + row + ", " + face + ", " + k + ")", x.fillers(row, face, k), () -> m.fillers(row, face, k), -1);
            }
            case 20: {
                int head = about(0, 3), kin = about(0, 5), secs = about(0, 999), light = about(0, 9), fear = about(0, 9), waits = about(0, dice.nextBoolean() ? 5 : 60);
                return due("world(" + head + ", " + kin + ", " + face + ", " + secs + ", " + light + ", " + fear + ", " + waits + ", " + row + ", " + place + ")",
                    x.world(head, kin, face, secs, light, fear, waits, row, place), () -> m.world(head, kin, face, secs, light, fear, waits, row, place), -1);
            }
            case 21: {
                int k = about(0, 3);
                if (dice.nextBoolean()) {
                    int world = about(0, m.worlds.size() - 1), what = about(0, 3);
                    return due("tried(" + world + ", " + k + ", " + what + ")", x.tried(world, k, what), () -> m.tried(world, k, what), -1);
                }
                int[] whats = {0, 1, 2, 10, 11, 12, 13, 14, 20, 21, 22, 23, 24, 30, 31, 3, 9, 15, 19, 25, 29, 32, -1};
                int what = whats[dice.nextInt(whats.length)];
                return due("way(" + k + ", " + what + ")", x.way(k, what), () -> m.way(k, what), -1);
            }
            case 22: {
                int i = about(0, m.showings.size() - 1), j = about(-1, i > 0 && i < 100 ? i - 1 : 0);
                if (dice.nextBoolean()) {
                    return due("replayed(" + i + ", " + j + ")", x.replayed(i, j), () -> m.replayed(i, j), -1);
                }
                return due("spoilt(" + i + ")", x.spoilt(i), () -> m.spoilt(i), -1);
            }
            default: {
                int v = about(0, m.witnesses.size() - 1), what = about(0, 1);
                if (dice.nextBoolean()) {
                    int asked = about(0, 6);
                    return due("look(" + asked + ")", x.look(asked), () -> m.look(asked), -1);
                }
                return due("both(" + v + ", " + w + ", " + row + ", " + place + ", " + what + ")",
                    x.both(v, w, row, place, what), () -> m.both(v, w, row, place, what), -1);
            }
        }
    }

    private static int four(int[] n, int from) {
        return n[from] << 24 | n[from + 1] << 16 | n[from + 2] << 8 | n[from + 3];
    }

    private boolean feedText(int k, int sort) {
        String text = dice.nextInt(12) == 0 ? soup() : sort == 0 ? head() : sort == 1 ? said() : wayText();
        if (dice.nextInt(15) == 0 && !text.isEmpty()) {
            int at = dice.nextInt(text.length());
            text = text.substring(0, at) + soup() + text.substring(dice.nextBoolean() ? at : at + 1);
        }
        byte[] bytes = text.getBytes(StandardCharsets.ISO_8859_1);
        boolean isDue = true;
        for (int i = 0; i < bytes.length && isDue; i += 20) {
            int[] five = new int[5];
            for (int j = 0; j < 20; j++) {
                int one = i + j < bytes.length ? bytes[i + j] & 255 : dice.nextInt(256);
                five[j / 4] |= one << 24 - 8 * (j % 4);
            }
            int a = five[0], b = five[1], c = five[2], d = five[3], e = five[4];
            isDue = due("feed(" + a + ", " + b + ", " + c + ", " + d + ", " + e + ")", x.feed(a, b, c, d, e), () -> m.feed(a, b, c, d, e), -1);
        }
        int n = bytes.length;
        return isDue && due("end(" + n + ")", x.end(n) ? 1 : 0, () -> m.end(n), 0)
            && due("text(" + sort + ", " + k + ") of " + text, x.text(sort, k), () -> m.text(sort, k), -1)
            && due("fault(0)", x.fault(0), () -> m.fault(0), -1)
            && due("fault(1)", x.fault(1), () -> m.fault(1), -1);
    }

    private static final String[] TOKENS = {"far", "blur", "fade", "pull", "limit", "nobody", "sure", "part", "parts",
        "whole", "kin", "secs", "light", "fear", "days", "gap", "first", "told", "no", "each", "led", "drawn", "praise",
        "0", "1", "7", "15", "16", "99", "100", "9999", "12345", "0000", ";", "+", "-", "*", "/", "(", ")", "<", "=", ">",
        " ", "\n", "\t", "X", "far1", "\u00e9", "!", "(((((", "/ 0", ";;", "Far", "partS"};

    private String soup() {
        StringBuilder text = new StringBuilder();
        for (int i = in(0, 12); i >= 0; i--) {
            text.append(TOKENS[dice.nextInt(TOKENS.length)]).append(dice.nextInt(3) == 0 ? "" : " ");
        }
        return text.toString();
    }

    private String sum(int deep) {
        StringBuilder text = new StringBuilder(product(deep));
        for (int i = dice.nextInt(3); i > 0; i--) {
            text.append(dice.nextBoolean() ? " + " : "-").append(product(deep));
        }
        return text.toString();
    }

    private String product(int deep) {
        StringBuilder text = new StringBuilder(unit(deep));
        for (int i = dice.nextInt(5) / 3; i > 0; i--) {
            text.append(dice.nextBoolean() ? "*" + unit(deep) : " / " + in(dice.nextInt(40) == 0 ? 0 : 1, 30));
        }
        return text.toString();
    }

    private String unit(int deep) {
        String[] asked = {"parts", "whole", "kin", "secs", "light", "fear", "days", "gap", "first", "told"};
        int luck = dice.nextInt(10);
        if (luck < 2 && deep < 10) {
            return "(" + sum(deep + 1) + ")";
        }
        return luck < 6 ? asked[dice.nextInt(asked.length)] : "" + in(0, dice.nextInt(5) == 0 ? 9999 : 40);
    }

    private String head() {
        String[] lines = {"far parts + 2 * whole - 20 * kin;", "blur 15 - light;", "fade 3 + days / 4;", "pull 20 + 10 * told;",
            "limit 600 - secs / 4;", "nobody 5 + fear;", "sure 40 + gap / 2 - first / 8 + 20 * told;", "part fear / 2;"};
        String[] words = {"far", "blur", "fade", "pull", "limit", "nobody", "sure", "part"};
        StringBuilder text = new StringBuilder();
        for (int i = 0; i < 8; i++) {
            int luck = dice.nextInt(9);
            if (luck < 5) {
                text.append(lines[i]);
            } else if (luck == 5) {
                text.append(words[i]).append(' ').append(sum(0)).append(dice.nextBoolean() ? ";\n" : ";");
            }
        }
        return text.length() > 400 ? text.substring(0, 400) : text.toString();
    }

    private String said() {
        StringBuilder text = new StringBuilder();
        for (int i = in(0, dice.nextInt(8) == 0 ? 13 : 4); i > 0; i--) {
            text.append("no ").append(in(0, dice.nextInt(20) == 0 ? 16 : 15)).append("<=>".charAt(dice.nextInt(3)))
                .append(' ').append(in(0, 33)).append(";");
        }
        return text.toString();
    }

    private String wayText() {
        String[] lines = {"each;", "led " + in(0, 30) + ";", "drawn " + in(0, 5) + ";", "praise ;"};
        StringBuilder text = new StringBuilder();
        for (int i = dice.nextInt(4); i > 0; i--) {
            text.append(lines[dice.nextInt(4)]);
        }
        return text.toString();
    }
}
