import java.util.ArrayList;
import java.util.List;

/**
 * Each number that a call takes: the least and the most that can be are taken; those beside them, and far
 * off ones, are refused with NONE (or false), and leave an object as one of the same story without the call.
 */
public final class RefusalsTest extends Checks {
    private static final int[] FAR_OFF = {Integer.MIN_VALUE, -1000, 1 << 16, Integer.MAX_VALUE};
    private static final int SIGHTS = 3;

    /** A call with one number left open; a boolean is 1 or NONE. */
    interface Call {
        long on(FaceRows x, int v);
    }

    private static final List<List<Long>> untouched = new ArrayList<>();

    public static void main(String[] args) {
        for (int i = 0; i < SIGHTS; i++) {
            untouched.add(sight(story(), i));
        }
        facesAndRows();
        textsAndDays();
        witnesses();
        odds();
        show();
        showings();
        askedOfFaces();
        fairRows();
        worlds();
        ways();
        replays();
        fullHouses();
        finish("RefusalsTest");
    }

    // ---- the story, and what can be seen of it

    /** Five days, nine faces (the last one made by witness 0), four witnesses, five showings, two worlds. */
    private static FaceRows story() {
        FaceRows x = new FaceRows();
        for (int i = 0; i < 8; i++) {
            x.face(i % 6, i * 0x03020105, i * 0x01020304, i * 0x04030201, i * 0x02020202);
        }
        text(x, 0, 0, "blur 2;fade 10;pull 40;limit 900;part 1;sure gap;");
        text(x, 0, 1, "far parts + 100 * kin;pull 20;limit 300;");
        text(x, 0, 3, "fade 50 * days;");
        text(x, 1, 0, "no 0 > 5;no 3 < 20;");
        text(x, 2, 1, "each;led 20;praise;");
        text(x, 2, 3, "drawn 5;");
        row(x, 0, 0, 1, -1, 2, 3);
        row(x, 1, 4);
        row(x, 3, -1, -1);
        row(x, 4, 7, 6, 5, 4, 3, 2, 1, 0, 6);
        x.type(1, 7);
        x.witness(0, 1, 1, 30, 4, 5);
        x.days(2);
        x.witness(1, 0, 2, 60, 7, 2);
        x.witness(3, 5, 4, 999, 9, 9);
        x.witness(2, 0, 0, 0, 0, 0);
        x.show(0, 0, 0, 1, 30, 1);
        x.together(0, 0);
        row(x, 5, 8, 5);
        x.days(3);
        x.show(0, 0, 1, -1, 0, -1);
        x.show(1, 1, 2, -1, 0, -1);
        x.show(1, 5, 0, 0, 5, 0);
        x.show(0, 4, 0, 8, 99, 8);
        x.world(0, 0, 3, 10, 5, 5, 9, 0, 1);
        x.world(1, 5, 7, 10, 5, 5, 0, 4, 8);
        x.praise(0);
        text(x, 0, 2, "far !");
        tape(x, "pull 80;            ");
        return x;
    }

    private static List<Long> sight(FaceRows x, int which) {
        List<Long> all = new ArrayList<>();
        if (which == 0) {
            stock(x, all);
        } else if (which == 1) {
            answers(x, all);
        } else {
            next(x, all);
        }
        return all;
    }

    private static void stock(FaceRows x, List<Long> all) {
        for (int what = 0; what < 7; what++) {
            all.add((long) x.look(what));
        }
        all.add((long) x.fault(0));
        all.add((long) x.fault(1));
        for (int w = 0; w < 4; w++) {
            for (int j = 0; j < 16; j++) {
                all.add((long) x.memory(w, j));
            }
        }
        for (int face = 0; face < 10; face++) {
            for (int j = 0; j < 18; j++) {
                all.add((long) x.number(face, j));
            }
        }
        for (int i = 0; i < 5; i++) {
            for (int what = 0; what < 19; what++) {
                all.add((long) x.showing(i, what));
            }
        }
    }

    private static void answers(FaceRows x, List<Long> all) {
        int[] rows = {0, 1, 5};
        for (int w = 0; w < 3; w++) {
            for (int row : rows) {
                for (int place = -1; place < 5; place++) {
                    all.add((long) x.odds(w, row, 0, -1, 0, place));
                    all.add((long) x.sure(w, row, place));
                }
            }
            for (int place = -1; place < 9; place++) {
                all.add((long) x.odds(w, 4, 1, 4, 50, place));
            }
        }
        for (int face = 0; face < 9; face++) {
            all.add((long) x.score(face));
            all.add((long) x.far(1, face));
            all.add((long) x.far(2, face));
        }
        for (int way = 0; way < 4; way++) {
            for (int what = 0; what < 32; what += what == 2 ? 8 : 1) {
                all.add(x.way(way, what));
            }
        }
        for (int j = -1; j < 4; j++) {
            all.add((long) x.replayed(4, j));
        }
        all.add((long) x.spoilt(4));
        all.add((long) x.both(0, 1, 0, 0, 0));
        all.add((long) x.both(0, 2, 4, 0, 1));
    }

    /** What the next calls of each sort answer, and what they do. */
    private static void next(FaceRows x, List<Long> all) {
        for (int row = 0; row < 6; row++) {
            all.add((long) x.put(row, -1));
        }
        for (int w = 0; w < 4; w++) {
            all.add((long) x.praise(w));
        }
        all.add(x.end(21) ? 1L : 0L);
        all.add((long) x.text(0, 0));
        for (int i = 0; i < 6; i++) {
            int face = flat(x, i, i);
            all.add((long) face);
            all.add((long) x.witness(3, 0, face, 0, 0, 0));
        }
        all.add((long) x.show(0, 0, 0, -1, 0, 3));
        all.add((long) x.together(1, 4));
        all.add((long) x.world(0, 0, 0, 0, 0, 0, 0, 0, 0));
        all.add((long) x.days(3));
        for (int w = 0; w < 10; w++) {
            for (int j = 0; j < 16; j += 3) {
                all.add((long) x.memory(w, j));
            }
        }
        for (int what = 0; what < 7; what++) {
            all.add((long) x.look(what));
        }
    }

    // ---- just inside, just outside

    private static void can(String what, Call call, int... values) {
        for (int v : values) {
            due(what + " " + v + " can be", call.on(story(), v) != -1, true);
        }
    }

    private static void cant(String what, Call call, int... values) {
        for (int v : values) {
            for (int i = 0; i < SIGHTS; i++) {
                FaceRows x = story();
                due(what + " " + v + " can't be", call.on(x, v), -1);
                due(what + " " + v + " changes nothing, sight " + i, sight(x, i).equals(untouched.get(i)), true);
            }
        }
    }

    private static void edges(String what, int least, int most, Call call) {
        can(what, call, least, most);
        cant(what, call, least - 1, most + 1);
        for (int v : FAR_OFF) {
            due(what + " " + v + " can't be", call.on(story(), v), -1);
        }
    }

    private static void facesAndRows() {
        edges("face: kin", 0, 5, (x, v) -> x.face(v, 1, 2, 3, 4));
        edges("number: face", 0, 8, (x, v) -> x.number(v, 0));
        edges("number: j", 0, 17, (x, v) -> x.number(8, v));
        cant("number: 17 of a face that none has made", (x, v) -> x.number(v, 17), 0, 7);
        edges("type: kin", 0, 5, (x, v) -> x.type(v, 3) ? 1 : -1);
        edges("type: face", 0, 8, (x, v) -> x.type(0, v) ? 1 : -1);
        edges("put: row", 0, 5, (x, v) -> x.put(v, 0));
        edges("put: face", -1, 8, (x, v) -> x.put(0, v));
        cant("put: behind nine", (x, v) -> x.put(4, v), -1, 0);
        edges("clear: row", 0, 5, (x, v) -> x.clear(v) ? 1 : -1);
        edges("look", 0, 6, (x, v) -> x.look(v));
    }

    private static void textsAndDays() {
        edges("end", 0, 20, (x, v) -> x.end(v) ? 1 : -1);
        edges("fault", 0, 1, (x, v) -> x.fault(v));
        edges("days", 1, 60, (x, v) -> x.days(v));
    }

    private static void witnesses() {
        edges("witness: head", 0, 3, (x, v) -> x.witness(v, 0, 0, 0, 0, 0));
        edges("witness: kin", 0, 5, (x, v) -> x.witness(0, v, 0, 0, 0, 0));
        edges("witness: seen", 0, 8, (x, v) -> x.witness(0, 0, v, 0, 0, 0));
        edges("witness: secs", 0, 999, (x, v) -> x.witness(0, 0, 0, v, 0, 0));
        edges("witness: light", 0, 9, (x, v) -> x.witness(0, 0, 0, 0, v, 0));
        edges("witness: fear", 0, 9, (x, v) -> x.witness(0, 0, 0, 0, 0, v));
        edges("memory: w", 0, 3, (x, v) -> x.memory(v, 0));
        edges("memory: j", 0, 15, (x, v) -> x.memory(0, v));
        edges("far: w", 0, 3, (x, v) -> x.far(v, 0));
        edges("far: face", 0, 8, (x, v) -> x.far(0, v));
        edges("praise", 0, 3, (x, v) -> x.praise(v));
    }

    private static void odds() {
        edges("odds: w", 0, 3, (x, v) -> x.odds(v, 0, 0, -1, 0, 0));
        edges("odds: row", 0, 5, (x, v) -> x.odds(0, v, 0, -1, 0, -1));
        edges("odds: kind", 0, 1, (x, v) -> x.odds(0, 0, v, -1, 0, 0));
        edges("odds: led", -1, 4, (x, v) -> x.odds(0, 0, 0, v, 0, 0));
        can("odds: led to nobody", (x, v) -> x.odds(0, 0, 0, v, 50, 2), 2);
        cant("odds: led in an empty row", (x, v) -> x.odds(0, 2, 0, v, 0, -1), 0);
        edges("odds: push", 0, 99, (x, v) -> x.odds(0, 0, 0, 1, v, 0));
        edges("odds: push, led to none", 0, 99, (x, v) -> x.odds(0, 0, 0, -1, v, 0));
        edges("odds: place", -1, 4, (x, v) -> x.odds(0, 0, 0, -1, 0, v));
        can("odds: nobody's place", (x, v) -> x.odds(0, 0, 0, -1, 0, v), 2);
        cant("odds: place of an empty row", (x, v) -> x.odds(0, 2, 0, -1, 0, v), 0);
    }

    private static void show() {
        edges("show: w", 0, 3, (x, v) -> x.show(v, 0, 0, -1, 0, 0));
        edges("show: row", 0, 5, (x, v) -> x.show(0, v, 0, -1, 0, -1));
        can("show: an empty row, a row of nobody", (x, v) -> x.show(0, v, 0, -1, 0, -1), 2, 3);
        edges("show: kind", 0, 2, (x, v) -> x.show(0, 0, v, -1, 0, -1));
        edges("show: led", -1, 4, (x, v) -> x.show(0, 0, 0, v, 0, 0));
        can("show: led to nobody", (x, v) -> x.show(0, 0, 0, v, 50, 0), 2);
        edges("show: led, drawn", -1, 4, (x, v) -> x.show(0, 0, 2, v, 0, -1));
        edges("show: push", 0, 99, (x, v) -> x.show(0, 0, 0, 1, v, 0));
        edges("show: push, led to none", 0, 99, (x, v) -> x.show(0, 0, 0, -1, v, 0));
        edges("show: pick", -1, 4, (x, v) -> x.show(0, 0, 0, -1, 0, v));
        edges("show: pick, each", -1, 4, (x, v) -> x.show(0, 0, 1, -1, 0, v));
        cant("show: pick of nobody's place", (x, v) -> x.show(0, 0, v, -1, 0, 2), 0, 1);
        can("show: drawn, nothing is picked", (x, v) -> x.show(0, 0, 2, -1, 0, v), -1);
        cant("show: drawn, a pick", (x, v) -> x.show(0, 0, 2, -1, 0, v), -2, 0, 2, 4, 5);
    }

    private static void showings() {
        edges("showing: i", 0, 4, (x, v) -> x.showing(v, 0));
        edges("showing: what", 0, 5, (x, v) -> x.showing(4, v));
        edges("showing: faces", 10, 18, (x, v) -> x.showing(4, v));
        can("showing: the last place of five", (x, v) -> x.showing(0, v), 14);
        cant("showing: nobody, and no such place of five", (x, v) -> x.showing(0, v), 12, 15, 18);
        edges("sure: w", 0, 3, (x, v) -> x.sure(v, 0, 0));
        edges("sure: row", 0, 5, (x, v) -> x.sure(0, v, 0));
        edges("sure: place", 0, 4, (x, v) -> x.sure(0, 0, v));
        cant("sure: nobody's place", (x, v) -> x.sure(0, 0, v), 2);
        edges("together: w", 0, 3, (x, v) -> x.together(v, 0));
        edges("together: row", 0, 5, (x, v) -> x.together(0, v));
        can("together: one face", (x, v) -> x.together(0, v), 1);
        cant("together: no face", (x, v) -> x.together(0, v), 2, 3);
    }

    private static void askedOfFaces() {
        edges("known: w", 0, 3, (x, v) -> x.known(v, 0, 0));
        edges("known: face", 0, 8, (x, v) -> x.known(0, v, 0));
        edges("known: what", 0, 1, (x, v) -> x.known(0, 0, v));
        edges("bred: w", 0, 3, (x, v) -> x.bred(v, 0, 999));
        edges("bred: row", 0, 5, (x, v) -> x.bred(0, v, 999));
        cant("bred: no face", (x, v) -> x.bred(0, v, 999), 2, 3);
        edges("bred: reach", 0, 999, (x, v) -> x.bred(3, 0, v));
    }

    private static void fairRows() {
        edges("score", 0, 8, (x, v) -> x.score(v));
        edges("mock: row", 0, 5, (x, v) -> x.mock(v, 0, 0));
        edges("mock: place", 0, 4, (x, v) -> x.mock(0, v, 0));
        cant("mock: nobody's place", (x, v) -> x.mock(0, 2, v), 0, 1);
        edges("mock: what", 0, 1, (x, v) -> x.mock(0, 0, v));
        edges("fillers: row", 0, 5, (x, v) -> x.fillers(v, 0, 1));
        cant("fillers: no face", (x, v) -> x.fillers(v, 0, 1), 2, 3);
        edges("fillers: face", 0, 8, (x, v) -> x.fillers(0, v, 1));
        edges("fillers: k of nine that can be", 1, 8, (x, v) -> x.fillers(4, 8, v));
        can("fillers: as many as there are", (x, v) -> x.fillers(0, 0, v), 3);
        cant("fillers: not so many", (x, v) -> x.fillers(0, 0, v), 4);
    }

    private static void worlds() {
        edges("world: head", 0, 3, (x, v) -> x.world(v, 0, 0, 0, 0, 0, 0, 0, 0));
        edges("world: kin", 0, 5, (x, v) -> x.world(0, v, 0, 0, 0, 0, 0, 0, 0));
        edges("world: doer", 0, 8, (x, v) -> x.world(0, 0, v, 0, 0, 0, 0, 0, 0));
        edges("world: secs", 0, 999, (x, v) -> x.world(0, 0, 0, v, 0, 0, 0, 0, 0));
        edges("world: light", 0, 9, (x, v) -> x.world(0, 0, 0, 0, v, 0, 0, 0, 0));
        edges("world: fear", 0, 9, (x, v) -> x.world(0, 0, 0, 0, 0, v, 0, 0, 0));
        edges("world: waits", 0, 60, (x, v) -> x.world(0, 0, 0, 0, 0, 0, v, 0, 0));
        edges("world: row", 0, 5, (x, v) -> x.world(0, 0, 0, 0, 0, 0, 0, v, 0));
        edges("world: suspect", 0, 4, (x, v) -> x.world(0, 0, 0, 0, 0, 0, 0, 0, v));
        cant("world: nobody as the suspect", (x, v) -> x.world(0, 0, 0, 0, 0, 0, 0, 0, v), 2);
        cant("world: a row without a suspect", (x, v) -> x.world(0, 0, 0, 0, 0, 0, 0, v, 0), 2, 3);
    }

    private static void ways() {
        edges("tried: world", 0, 1, (x, v) -> x.tried(v, 0, 0));
        edges("tried: way", 0, 3, (x, v) -> x.tried(0, v, 0));
        edges("tried: what", 0, 3, (x, v) -> x.tried(0, 0, v));
        edges("way: k", 0, 3, (x, v) -> x.way(v, 0));
        edges("way: what", 0, 2, (x, v) -> x.way(1, v));
        edges("way: worth, right", 10, 14, (x, v) -> x.way(1, v));
        edges("way: worth, not", 20, 24, (x, v) -> x.way(1, v));
        edges("way: kins", 30, 31, (x, v) -> x.way(1, v));
    }

    /** Showings 0, 1 and 4 are those of witness 0; 2 (drawn) and 3 those of witness 1. */
    private static void replays() {
        edges("replayed: i", 0, 4, (x, v) -> x.replayed(v, -1));
        cant("replayed: i drawn", (x, v) -> x.replayed(v, -1), 2);
        can("replayed: j ahead of 4", (x, v) -> x.replayed(4, v), -1, 0, 1);
        cant("replayed: j of another one, or not ahead of 4", (x, v) -> x.replayed(4, v), -2, 2, 3, 4, 5);
        can("replayed: j ahead of 1", (x, v) -> x.replayed(1, v), 0);
        cant("replayed: j not ahead of 1", (x, v) -> x.replayed(1, v), 1, 4);
        can("replayed: j drawn", (x, v) -> x.replayed(3, v), 2);
        can("spoilt", (x, v) -> x.spoilt(v), 4);
        cant("spoilt: none such, none ahead, drawn", (x, v) -> x.spoilt(v), -1, 5, 0, 2);
        edges("both: v", 0, 3, (x, v) -> x.both(v, 1, 0, 0, 1));
        edges("both: w", 0, 3, (x, v) -> x.both(1, v, 0, 0, 1));
        cant("both: the same", (x, v) -> x.both(2, 2, 0, 0, v), 0, 1);
        edges("both: row", 0, 5, (x, v) -> x.both(0, 1, v, 0, 1));
        edges("both: place", 0, 4, (x, v) -> x.both(0, 1, 0, v, 1));
        cant("both: nobody's place", (x, v) -> x.both(0, 1, 0, v, 1), 2);
        can("both: nobody's place, for 0", (x, v) -> x.both(0, 1, 0, v, 0), 2);
        edges("both: what", 0, 1, (x, v) -> x.both(0, 1, 0, 0, v));
    }

    // ---- full houses

    /** As full as can be, but for so many of each. */
    private static FaceRows full(int less) {
        FaceRows x = new FaceRows();
        for (int i = 0; i < 120 - less; i++) {
            flat(x, i % 6, i % 32);
        }
        text(x, 0, 0, "pull 100;fade 100;");
        for (int i = 0; i < 9 - less; i++) {
            x.put(0, i);
        }
        x.put(1, 3);
        for (int i = 0; i < 20 - less; i++) {
            x.witness(i % 4, 0, i, 0, 0, 0);
        }
        for (int i = 0; i < 16; i++) {
            x.days(60);
        }
        x.days(39 - less);
        for (int i = 0; i < 100 - less; i++) {
            x.show(1 + i % 18, 0, 0, -1, 0, -1);
        }
        for (int i = 0; i < 40 - less; i++) {
            x.world(0, 0, i, 0, 0, 0, 0, 0, 0);
        }
        for (int i = 0; i < 20 - less; i++) {
            x.feed(i, i, i, i, i);
        }
        return x;
    }

    private static List<Long> sightOfFull(FaceRows x) {
        List<Long> all = new ArrayList<>();
        for (int what = 0; what < 7; what++) {
            all.add((long) x.look(what));
        }
        for (int w = 0; w < 20; w++) {
            all.add((long) x.memory(w, 0));
            all.add((long) x.memory(w, 15));
        }
        for (int i = 118; i <= 120; i++) {
            all.add((long) x.number(i, 3));
            all.add((long) x.number(i, 17));
            all.add((long) x.showing(i - 20, 0));
            all.add((long) x.tried(i - 80, 0, 3));
        }
        for (int place = 0; place < 9; place++) {
            all.add((long) x.odds(5, 0, 0, -1, 0, place));
        }
        all.add(x.end(401) ? 1L : 0L);
        all.add(x.end(400) ? 1L : 0L);
        all.add(x.end(380) ? 1L : 0L);
        all.add((long) x.text(0, 1));
        all.add((long) x.fault(0));
        return all;
    }

    private static void last(String what, int number, Call call) {
        due(what + ": the last one", call.on(full(1), 0), number);
        FaceRows x = full(0);
        due(what + ": one more", call.on(x, 0), -1);
        due(what + ": one more changes nothing", sightOfFull(x).equals(sightOfFull(full(0))), true);
    }

    private static void fullHouses() {
        last("faces", 119, (x, v) -> x.face(0, 1, 2, 3, 4));
        last("a face put together", 119, (x, v) -> x.together(0, 1));
        last("a place", 9, (x, v) -> x.put(0, 0));
        last("nobody's place", 9, (x, v) -> x.put(0, -1));
        last("bytes", 400, (x, v) -> x.feed(0x70756C6C, 0x20373B20, 0x20202020, 0x20202020, 0x20202020));
        last("a day", 999, (x, v) -> x.days(1));
        last("witnesses", 19, (x, v) -> x.witness(0, 0, 3, 0, 0, 0));
        last("showings", 99, (x, v) -> x.show(0, 1, 0, -1, 0, 0));
        last("a showing without a pick", 99, (x, v) -> x.show(0, 1, 2, -1, 0, -1));
        last("worlds", 39, (x, v) -> x.world(0, 0, 0, 0, 0, 0, 0, 0, 0));
        FaceRows x = full(1);
        due("more days than are left", x.days(2), -1);
        due("nothing is done", x.look(0), 998);
        due("as many as are left", x.days(1), 999);
    }
}
