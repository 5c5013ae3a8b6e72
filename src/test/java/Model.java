import java.util.ArrayList;
import java.util.Arrays;
import java.util.HashMap;
import java.util.LinkedHashMap;
import java.util.List;
import java.util.Map;
import java.util.function.ToIntFunction;
import java.util.regex.Matcher;
import java.util.regex.Pattern;

/**
 * The document told a second time, as plainly as the Java library allows and without a look at the
 * speed: the class is held against it on many runs. It shares no code with the class.
 */
final class Model {
    static final class Refused extends RuntimeException {
        private static final long serialVersionUID = 1L;
        Refused() { super(null, null, false, false); }
    }

    static final class Fault extends RuntimeException {
        private static final long serialVersionUID = 1L;
        final int sort;
        final int place;
        Fault(int sort, int place) { super(null, null, false, false); this.sort = sort; this.place = place; }
    }

    record Face(int kin, int[] numbers, int maker) { }
    record Token(String text, int place) { }
    record Said(int which, char sign, int value) { }
    /** sort 'd' a day, 's' a showing, 'm' a face put together. */
    record Event(char sort, int index) { }

    static final class Witness implements Cloneable {
        int head, kin, seen, secs, light, fear, told, day;
        int[] type, memory;
        List<Event> events = new ArrayList<>();
    }

    static final class Showing {
        int w, kind, day, led, push, pick, odds, sure;
        List<Integer> row;
    }

    static final class World {
        int head, kin, doer, secs, light, fear, waits, suspect;
        List<Integer> row;
    }

    final List<Face> faces = new ArrayList<>();
    final int[][] types = new int[6][16];
    final List<List<Integer>> rows = new ArrayList<>();
    final List<Witness> witnesses = new ArrayList<>();
    final List<Showing> showings = new ArrayList<>();
    final List<World> worlds = new ArrayList<>();
    final List<Map<String, ToIntFunction<Map<String, Integer>>>> heads = new ArrayList<>();
    final List<Map<String, Integer>> ways = new ArrayList<>();
    List<Said> said = new ArrayList<>();
    StringBuilder tape = new StringBuilder();
    int now, faultSort, faultPlace = -1;

    Model() {
        for (int[] type : types) Arrays.fill(type, 16);
        for (int i = 0; i < 6; i++) rows.add(new ArrayList<>());
        for (int i = 0; i < 4; i++) { heads.add(new HashMap<>()); ways.add(new HashMap<>()); }
    }

    static void must(boolean so) { if (!so) throw new Refused(); }
    static void in(int value, int least, int most) { must(value >= least && value <= most); }
    Face f(int i) { in(i, 0, faces.size() - 1); return faces.get(i); }
    List<Integer> r(int i) { in(i, 0, 5); return rows.get(i); }
    Witness w(int i) { in(i, 0, witnesses.size() - 1); return witnesses.get(i); }
    Showing s(int i) { in(i, 0, showings.size() - 1); return showings.get(i); }
    static List<Integer> facesOf(List<Integer> row) { List<Integer> all = new ArrayList<>(row); all.removeIf(f -> f == -1); return all; }
    static int apart(int[] a, int[] b, int from, int till) {
        int sum = 0;
        for (int j = from; j < till; j++) sum += Math.max(a[j], b[j]) - Math.min(a[j], b[j]);
        return sum;
    }

    // ---- texts

    static List<Token> tokens(String text) {
        List<Token> all = new ArrayList<>();
        Matcher m = Pattern.compile("[A-Za-z]+|[0-9]+|[^A-Za-z0-9 \n]", Pattern.DOTALL).matcher(text);
        while (m.find()) all.add(new Token(m.group(), m.start()));
        all.add(new Token("", text.length()));
        return all;
    }

    /** Reads by the grammar; the first thing that can't stand is the first by its place. */
    static final class Parser {
        final List<Token> all;
        int i;
        Parser(String text) { all = tokens(text); }
        String peek() { return all.get(i).text(); }
        Fault fault(int sort) { return new Fault(sort, all.get(i).place()); }
        void need(String sign) { if (!peek().equals(sign)) throw fault(1); i++; }
        int number(int most) {
            if (!peek().matches("[0-9]{1,4}")) throw fault(1);
            int value = Integer.parseInt(peek());
            if (value > most) throw fault(2);
            i++;
            return value;
        }
        ToIntFunction<Map<String, Integer>> sum(int open) {
            ToIntFunction<Map<String, Integer>> left = product(open);
            while (peek().equals("+") || peek().equals("-")) {
                boolean plus = peek().equals("+");
                i++;
                ToIntFunction<Map<String, Integer>> a = left, b = product(open);
                left = plus ? g -> a.applyAsInt(g) + b.applyAsInt(g) : g -> a.applyAsInt(g) - b.applyAsInt(g);
            }
            return left;
        }
        ToIntFunction<Map<String, Integer>> product(int open) {
            ToIntFunction<Map<String, Integer>> left = unit(open);
            while (peek().equals("*") || peek().equals("/")) {
                boolean times = peek().equals("*");
                i++;
                ToIntFunction<Map<String, Integer>> a = left;
                if (times) {
                    ToIntFunction<Map<String, Integer>> b = unit(open);
                    left = g -> a.applyAsInt(g) * b.applyAsInt(g);
                } else {
                    if (peek().matches("0{1,4}")) throw fault(2);
                    int by = number(9999);
                    left = g -> a.applyAsInt(g) / by;
                }
            }
            return left;
        }
        ToIntFunction<Map<String, Integer>> unit(int open) {
            String token = peek();
            if (token.equals("(")) {
                if (open == 8) throw fault(3);
                i++;
                ToIntFunction<Map<String, Integer>> inner = sum(open + 1);
                need(")");
                return inner;
            }
            if (List.of("parts", "whole", "kin", "secs", "light", "fear", "days", "gap", "first", "told").contains(token)) {
                i++;
                return g -> g.getOrDefault(token, 0);
            }
            int value = number(9999);
            return g -> value;
        }
    }

    int text(int sort, int k) {
        String text = tape.toString();
        tape = new StringBuilder();
        faultSort = 0;
        faultPlace = -1;
        must(sort == 0 && k >= 0 && k < 4 || sort == 1 && k == 0 || sort == 2 && k >= 0 && k < 4);
        try {
            Parser p = new Parser(text);
            if (sort == 0) { heads.set(k, readHead(p)); return heads.get(k).size(); }
            if (sort == 1) { said = readSaid(p); return said.size(); }
            ways.set(k, readWay(p));
            return ways.get(k).size();
        } catch (Fault fault) {
            faultSort = fault.sort;
            faultPlace = fault.place;
            return -1;
        }
    }

    static Map<String, ToIntFunction<Map<String, Integer>>> readHead(Parser p) {
        Map<String, ToIntFunction<Map<String, Integer>>> lines = new LinkedHashMap<>();
        while (!p.peek().isEmpty()) {
            String word = p.peek();
            if (!List.of("far", "blur", "fade", "pull", "limit", "nobody", "sure", "part").contains(word)) throw p.fault(1);
            if (lines.containsKey(word)) throw p.fault(2);
            p.i++;
            lines.put(word, p.sum(0));
            p.need(";");
        }
        return lines;
    }

    static List<Said> readSaid(Parser p) {
        List<Said> lines = new ArrayList<>();
        while (!p.peek().isEmpty()) {
            if (!p.peek().equals("no")) throw p.fault(1);
            if (lines.size() == 12) throw p.fault(3);
            p.i++;
            int which = p.number(15);
            if (!p.peek().matches("[<=>]")) throw p.fault(1);
            char sign = p.peek().charAt(0);
            p.i++;
            lines.add(new Said(which, sign, p.number(9999)));
            p.need(";");
        }
        return lines;
    }

    static Map<String, Integer> readWay(Parser p) {
        Map<String, Integer> lines = new HashMap<>();
        while (!p.peek().isEmpty()) {
            String word = p.peek();
            if (!List.of("each", "led", "drawn", "praise").contains(word)) throw p.fault(1);
            if (lines.containsKey(word)) throw p.fault(2);
            p.i++;
            lines.put(word, word.equals("led") ? p.number(99) : word.equals("drawn") ? p.number(5) : 0);
            p.need(";");
        }
        return lines;
    }

    // ---- heads

    static final Map<String, int[]> CUTS = Map.of("far", new int[] {0, 9999}, "limit", new int[] {0, 9999},
        "nobody", new int[] {1, 9999}, "blur", new int[] {0, 15}, "part", new int[] {0, 15},
        "fade", new int[] {0, 100}, "pull", new int[] {0, 100}, "sure", new int[] {0, 100});
    static final Map<String, Integer> USUAL = Map.of("blur", 0, "fade", 0, "pull", 0, "limit", 100, "nobody", 10, "sure", 50, "part", 0);

    static Map<String, Integer> given(Witness w, int day) {
        return new HashMap<>(Map.of("secs", w.secs, "light", w.light, "fear", w.fear, "days", day - w.day, "told", w.told));
    }

    static void hold(Map<String, Integer> g, Witness w, Face f) {
        g.put("parts", apart(f.numbers, w.memory, 0, 12));
        g.put("whole", apart(f.numbers, w.memory, 12, 16));
        g.put("kin", f.kin == w.kin ? 1 : 0);
    }

    int come(Witness w, String word, Map<String, Integer> g) {
        Map<String, ToIntFunction<Map<String, Integer>>> head = heads.get(w.head);
        int value = head.containsKey(word) ? head.get(word).applyAsInt(g)
            : word.equals("far") ? g.get("parts") + 2 * g.get("whole") : USUAL.get(word);
        int[] cut = CUTS.get(word);
        return value < cut[0] ? cut[0] : value > cut[1] ? cut[1] : value;
    }

    int come(Witness w, String word, int day) { return come(w, word, given(w, day)); }

    int far(Witness w, Face f, int day) {
        Map<String, Integer> g = given(w, day);
        hold(g, w, f);
        return come(w, "far", g);
    }

    int sure(Witness w, List<Integer> row, int place, int day) {
        int first = far(w, faces.get(row.get(place)), day);
        Integer least = null;
        for (int p = 0; p < row.size(); p++) {
            if (p != place && row.get(p) != -1) {
                int d = far(w, faces.get(row.get(p)), day);
                if (least == null || d < least) least = d;
            }
        }
        Map<String, Integer> g = given(w, day);
        hold(g, w, faces.get(row.get(place)));
        g.put("first", first);
        g.put("gap", least == null || least < first ? 0 : least - first);
        return come(w, "sure", g);
    }

    static int blurred(int v, int r) { return Math.min(31, v / (r + 1) * (r + 1) + r / 2); }
    static void pull(Witness w, int[] others, int by) {
        int[] memory = new int[16];
        for (int j = 0; j < 16; j++) memory[j] = w.memory[j] + by * (others[j] - w.memory[j]) / 100;
        w.memory = memory;
    }

    void see(Witness w, int day) {
        w.day = day;
        w.memory = new int[16];
        int blur = come(w, "blur", day);
        for (int j = 0; j < 16; j++) w.memory[j] = blurred(faces.get(w.seen).numbers[j], blur);
    }

    void dayGoesBy(Witness w, int day) { pull(w, w.type, come(w, "fade", day)); }

    void showTo(Witness w, Showing s, int day) {
        int pull = come(w, "pull", day);
        for (int f : facesOf(s.row)) pull(w, faces.get(f).numbers, pull / 2);
        if (s.pick != -1) pull(w, faces.get(s.row.get(s.pick)).numbers, pull);
    }

    int[] compose(Witness w, List<Integer> row, int day) {
        int part = come(w, "part", day);
        int[] made = new int[16];
        List<Face> taken = new ArrayList<>();
        for (int p = 0; p < 12; p += 2) {
            Face best = null;
            int least = Integer.MAX_VALUE;
            for (int f : facesOf(row)) {
                int[] n = faces.get(f).numbers;
                int d = Math.abs(n[p] - blurred(w.memory[p], part)) + Math.abs(n[p + 1] - blurred(w.memory[p + 1], part));
                if (d < least) { least = d; best = faces.get(f); }
            }
            taken.add(best);
            made[p] = best.numbers[p];
            made[p + 1] = best.numbers[p + 1];
        }
        for (int j = 12; j < 16; j++) {
            int sum = 0;
            for (Face f : taken) sum += f.numbers[j];
            made[j] = sum / 6;
        }
        return made;
    }

    /** The odds of each place, nobody's behind them. */
    int[] odds(Witness w, List<Integer> row, int kind, int led, int push, int day) {
        int n = row.size();
        long nobody = come(w, "nobody", day), all = nobody;
        long[] weights = new long[n];
        for (int p = 0; p < n; p++) {
            if (row.get(p) == -1) continue;
            weights[p] = Math.max(0, come(w, "limit", day) - far(w, faces.get(row.get(p)), day)) + (p == led ? push : 0);
            all += weights[p];
        }
        int[] odds = new int[n + 1];
        int left = 1000000;
        for (int p = 0; p < n; p++) {
            odds[p] = (int) (kind == 0 ? 1000000 * weights[p] / all : left * weights[p] / (weights[p] + nobody));
            left -= odds[p];
        }
        odds[n] = left;
        return odds;
    }

    int oddsOf(Witness w, List<Integer> row, int kind, int led, int push, int place, int day) {
        int[] odds = odds(w, row, kind, led, push, day);
        return place == -1 ? odds[odds.length - 1] : odds[place];
    }

    // ---- the calls

    int face(int kin, int a, int b, int c, int d) {
        in(kin, 0, 5);
        must(faces.size() < 120);
        int[] n = new int[16];
        int[] four = {a, b, c, d};
        for (int j = 0; j < 16; j++) n[j] = four[j / 4] >>> (8 * (3 - j % 4)) & 31;
        faces.add(new Face(kin, n, -1));
        return faces.size() - 1;
    }

    int number(int face, int j) {
        Face f = f(face);
        in(j, 0, 17);
        return j == 17 ? f.maker : j == 16 ? f.kin : f.numbers[j];
    }

    int type(int kin, int face) {
        in(kin, 0, 5);
        types[kin] = f(face).numbers.clone();
        return 1;
    }

    int put(int row, int face) {
        if (face != -1) f(face);
        must(r(row).size() < 9);
        r(row).add(face);
        return r(row).size();
    }

    int clear(int row) { r(row).clear(); return 1; }

    int feed(int a, int b, int c, int d, int e) {
        must(tape.length() <= 380);
        for (int four : new int[] {a, b, c, d, e}) {
            for (int i = 24; i >= 0; i -= 8) tape.append((char) (four >>> i & 255));
        }
        return tape.length();
    }

    int end(int n) { in(n, 0, tape.length()); tape.setLength(n); return 1; }

    int fault(int what) { in(what, 0, 1); return what == 0 ? faultSort : faultPlace; }

    int days(int n) {
        in(n, 1, 60);
        must(now + n <= 999);
        for (int i = 0; i < n; i++) {
            for (Witness w : witnesses) { dayGoesBy(w, now); w.events.add(new Event('d', now)); }
            now++;
        }
        return now;
    }

    void canSee(int head, int kin, int seen, int secs, int light, int fear) {
        in(head, 0, 3); in(kin, 0, 5); f(seen); in(secs, 0, 999); in(light, 0, 9); in(fear, 0, 9);
    }

    static Witness sight(int head, int kin, int seen, int secs, int light, int fear) {
        Witness w = new Witness();
        w.head = head; w.kin = kin; w.seen = seen; w.secs = secs; w.light = light; w.fear = fear;
        return w;
    }

    int witness(int head, int kin, int seen, int secs, int light, int fear) {
        canSee(head, kin, seen, secs, light, fear);
        must(witnesses.size() < 20);
        Witness w = sight(head, kin, seen, secs, light, fear);
        w.type = types[faces.get(seen).kin].clone();
        see(w, now);
        witnesses.add(w);
        return witnesses.size() - 1;
    }

    int memory(int w, int j) { in(j, 0, 15); return w(w).memory[j]; }
    int far(int w, int face) { return far(w(w), f(face), now); }

    void canLead(List<Integer> row, int led, int push) { in(push, 0, 99); in(led, -1, row.size() - 1); }

    int odds(int w, int row, int kind, int led, int push, int place) {
        in(kind, 0, 1);
        canLead(r(row), led, push);
        in(place, -1, r(row).size() - 1);
        return oddsOf(w(w), r(row), kind, led, push, place, now);
    }

    int show(int w, int row, int kind, int led, int push, int pick) {
        in(kind, 0, 2);
        canLead(r(row), led, push);
        in(pick, -1, kind == 2 ? -1 : r(row).size() - 1);
        must(pick == -1 || r(row).get(pick) != -1);
        must(showings.size() < 100);
        Showing s = new Showing();
        s.w = w; s.kind = kind; s.day = now; s.led = led; s.push = push; s.pick = pick;
        s.row = new ArrayList<>(r(row));
        s.odds = kind == 2 ? 0 : oddsOf(w(w), s.row, kind, led, push, pick, now);
        s.sure = pick == -1 ? -1 : sure(w(w), s.row, pick, now);
        showTo(w(w), s, now);
        showings.add(s);
        w(w).events.add(new Event('s', showings.size() - 1));
        return showings.size() - 1;
    }

    int showing(int i, int what) {
        Showing s = s(i);
        if (what >= 10 && what - 10 < s.row.size()) return s.row.get(what - 10);
        in(what, 0, 5);
        return new int[] {s.w, s.kind, s.day, s.pick, s.odds, s.sure}[what];
    }

    int praise(int w) { if (w(w).told < 9) w(w).told++; return w(w).told; }

    int sure(int w, int row, int place) {
        in(place, 0, r(row).size() - 1);
        must(r(row).get(place) != -1);
        return sure(w(w), r(row), place, now);
    }

    int together(int w, int row) {
        Witness who = w(w);
        must(!facesOf(r(row)).isEmpty() && faces.size() < 120);
        int[] made = compose(who, r(row), now);
        faces.add(new Face(faces.get(who.seen).kin, made, w));
        pull(who, made, come(who, "pull", now));
        who.events.add(new Event('m', faces.size() - 1));
        return faces.size() - 1;
    }

    int known(int w, int face, int what) {
        in(what, 0, 1);
        Face seen = faces.get(w(w).seen);
        int d = apart(f(face).numbers, seen.numbers, 0, 16);
        if (what == 0) return d;
        return (int) faces.stream().filter(f -> f != seen && apart(f.numbers, seen.numbers, 0, 16) < d).count();
    }

    int bred(int w, int row, int reach) {
        in(reach, 0, 999);
        Witness who = w(w);
        List<Face> nest = new ArrayList<>();
        for (int f : facesOf(r(row))) nest.add(faces.get(f));
        must(!nest.isEmpty());
        for (int round = 1; round <= 30; round++) {
            List<Face> order = new ArrayList<>(nest);
            order.sort((a, b) -> Integer.compare(far(who, a, now), far(who, b, now)));
            Face p = order.get(0), q = order.get(order.size() > 1 ? 1 : 0);
            if (apart(p.numbers, faces.get(who.seen).numbers, 0, 16) <= reach) return round;
            nest.clear();
            for (int i = 0; i < 9; i++) {
                int[] n = new int[16];
                for (int j = 0; j < 16; j++) n[j] = (i & 1 << (i + j) % 3) == 0 ? p.numbers[j] : (p.numbers[j] + q.numbers[j]) / 2;
                int j = (5 * i + round) % 16;
                if (i > 0) n[j] = i % 2 == 1 ? Math.min(31, n[j] + 2) : Math.max(0, n[j] - 2);
                nest.add(new Face(p.kin, n, -1));
            }
        }
        throw new Refused();
    }

    int points(int face) {
        int[] n = faces.get(face).numbers;
        return (int) said.stream().filter(s -> s.sign == '<' ? n[s.which] < s.value : s.sign == '=' ? n[s.which] == s.value : n[s.which] > s.value).count();
    }

    int score(int face) { f(face); return points(face); }

    int mockOdds(List<Integer> some, int face) {
        int most = some.stream().mapToInt(this::points).max().orElse(0);
        return points(face) < most ? 0 : (int) (1000000 / some.stream().filter(f -> points(f) == most).count());
    }

    int mock(int row, int place, int what) {
        in(what, 0, 1);
        in(place, 0, r(row).size() - 1);
        must(r(row).get(place) != -1);
        List<Integer> all = facesOf(r(row));
        int odds = mockOdds(all, r(row).get(place));
        return what == 0 ? odds : Math.max(0, odds - 1000000 / all.size());
    }

    int fillers(int row, int face, int k) {
        in(k, 1, 8);
        f(face);
        List<Integer> places = r(row);
        long[] best = null;
        for (int set = 511; set >= 0; set--) {
            if (set >> places.size() != 0) continue;
            List<Integer> some = new ArrayList<>();
            for (int p = 0; p < places.size(); p++) if ((set >> p & 1) == 1) some.add(places.get(p));
            if (some.size() != k || some.contains(-1) || some.contains(face)) continue;
            int d = 0;
            for (int f : some) d += apart(f(f).numbers, f(face).numbers, 0, 16);
            some.add(face);
            long[] worth = {mockOdds(some, face), d, set};
            if (best == null || Arrays.compare(worth, best) < 0) best = worth;
        }
        must(best != null);
        return (int) best[2];
    }

    int world(int head, int kin, int doer, int secs, int light, int fear, int waits, int row, int suspect) {
        canSee(head, kin, doer, secs, light, fear);
        in(waits, 0, 60);
        in(suspect, 0, r(row).size() - 1);
        must(r(row).get(suspect) != -1);
        must(worlds.size() < 40);
        World t = new World();
        t.head = head; t.kin = kin; t.doer = doer; t.secs = secs; t.light = light; t.fear = fear;
        t.waits = waits; t.row = new ArrayList<>(r(row)); t.suspect = suspect;
        worlds.add(t);
        return worlds.size() - 1;
    }

    /** A pick of a place (or nobody, -1) with its odds, whether it is right, and its sure. */
    record Pick(int place, int odds, boolean right, int sure) { }

    List<Pick> picks(World t, Map<String, Integer> way) {
        Witness w = sight(t.head, t.kin, t.doer, t.secs, t.light, t.fear);
        w.type = types[faces.get(t.doer).kin];
        see(w, 0);
        if (way.containsKey("drawn") && !facesOf(rows.get(way.get("drawn"))).isEmpty()) {
            pull(w, compose(w, rows.get(way.get("drawn")), 0), come(w, "pull", 0));
        }
        for (int d = 0; d < t.waits; d++) dayGoesBy(w, d);
        int[] odds = odds(w, t.row, way.containsKey("each") ? 1 : 0, way.containsKey("led") ? t.suspect : -1, way.getOrDefault("led", 0), t.waits);
        w.told = way.containsKey("praise") ? 1 : 0;
        List<Pick> picks = new ArrayList<>();
        for (int p = 0; p < t.row.size(); p++) {
            if (t.row.get(p) != -1) picks.add(new Pick(p, odds[p], t.row.get(p) == t.doer, sure(w, t.row, p, t.waits)));
        }
        picks.add(new Pick(-1, odds[t.row.size()], false, -1));
        return picks;
    }

    int tried(World t, Map<String, Integer> way, int what) {
        int sum = 0;
        for (Pick p : picks(t, way)) {
            int sort = p.place == -1 ? 3 : p.right ? 0 : p.place == t.suspect ? 1 : 2;
            if (sort == what) sum += p.odds;
        }
        return sum;
    }

    int tried(int world, int way, int what) {
        in(world, 0, worlds.size() - 1); in(way, 0, 3); in(what, 0, 3);
        return tried(worlds.get(world), ways.get(way), what);
    }

    long way(int k, int what) {
        in(k, 0, 3);
        long sum = 0;
        if (what == 2) {
            for (int b = 0; b < 4; b++) {
                long more = way(b, 0) - way(k, 0), less = way(k, 1) - way(b, 1);
                if (more >= 0 && less >= 0 && more + less > 0) return 1;
            }
            return 0;
        }
        must(what >= 0 && what <= 1 || what >= 10 && what <= 14 || what >= 20 && what <= 24 || what == 30 || what == 31);
        for (World t : worlds) {
            if (what < 2) sum += tried(t, ways.get(k), what);
            for (Pick p : picks(t, ways.get(k))) {
                if (p.place == -1) continue;
                int bin = p.sure == 100 ? 4 : p.sure / 20;
                if (what == 10 + bin && p.right || what == 20 + bin && !p.right) sum += p.odds;
                if (what == (faces.get(t.doer).kin == t.kin ? 30 : 31) && !p.right) sum += p.odds;
            }
        }
        return sum;
    }

    int replayed(int i, int j) {
        Showing last = s(i);
        must(last.kind != 2);
        must(j == -1 || s(j).w == last.w && j < i);
        Witness real = w(last.w);
        Witness w = sight(real.head, real.kin, real.seen, real.secs, real.light, real.fear);
        w.type = real.type;
        w.told = real.told;
        see(w, real.day);
        for (Event e : real.events) {
            if (e.sort == 'd') dayGoesBy(w, e.index);
            if (e.sort == 'm') pull(w, faces.get(e.index).numbers, come(w, "pull", madeOn(real, e)));
            if (e.sort == 's' && e.index == i) break;
            if (e.sort == 's' && e.index != j) showTo(w, s(e.index), s(e.index).day);
        }
        return oddsOf(w, last.row, last.kind, last.led, last.push, last.pick, last.day);
    }

    static int madeOn(Witness w, Event made) {
        int day = w.day;
        for (Event e : w.events) {
            if (e.equals(made)) break;
            if (e.sort == 'd') day++;
        }
        return day;
    }

    int spoilt(int i) {
        int all = replayed(i, -1);
        int best = -1, most = 0;
        for (int j = 0; j < i; j++) {
            if (s(j).w == s(i).w && Math.abs(replayed(i, j) - all) > most) {
                best = j;
                most = Math.abs(replayed(i, j) - all);
            }
        }
        return best;
    }

    int both(int v, int w, int row, int place, int what) {
        Witness one = w(v), other = w(w);
        must(v != w);
        in(what, 0, 1);
        boolean apart = showings.stream().noneMatch(s -> facesOf(s.row).stream().anyMatch(
            f -> s.w == v && faces.get(f).maker == w || s.w == w && faces.get(f).maker == v));
        if (what == 0) return apart ? 1 : 0;
        in(place, 0, r(row).size() - 1);
        must(r(row).get(place) != -1);
        long a = oddsOf(one, r(row), 0, -1, 0, place, now), b = oddsOf(other, r(row), 0, -1, 0, place, now);
        return (int) (apart ? a * b / 1000000 : Math.min(a, b));
    }

    int look(int what) {
        in(what, 0, 6);
        return new int[] {now, faces.size(), witnesses.size(), showings.size(), worlds.size(), said.size(),
            (int) faces.stream().filter(f -> f.maker != -1).count()}[what];
    }
}
