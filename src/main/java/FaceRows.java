import java.util.Arrays;

/** Witnesses, the faces and rows that they are shown, and what their picks are worth. */
public final class FaceRows {
    public static final int NONE = -1;

    private static final int MOST_FACES = 120;
    private static final int KINS = 6;
    private static final int NUMBERS = 16;
    private static final int WHOLE_FROM = 12;
    private static final int PARTS_COUNT = 6;
    private static final int HIGHEST_NUMBER = 31;
    private static final int FIRST_TYPE = 16;
    private static final int ROWS = 6;
    private static final int MOST_PLACES = 9;
    private static final int MOST_BYTES = 400;
    private static final int HEADS = 4;
    private static final int WAYS = 4;
    private static final int MOST_WITNESSES = 20;
    private static final int MOST_SHOWINGS = 100;
    private static final int MOST_WORLDS = 40;
    private static final int LAST_DAY = 999;
    private static final int MOST_DAYS = 60;
    private static final int HIGHEST_PUSH = 99;
    private static final int MOST_TOLD = 9;
    private static final int MILLION = 1000000;
    private static final int MOST_ROUNDS = 30;
    private static final int HIGHEST_REACH = 999;
    private static final int MOST_FILLERS = 8;
    private static final int BINS = 5;

    // The kinds of a showing.
    private static final int AT_ONCE = 0;
    private static final int EACH_ALONE = 1;
    private static final int DRAWN_BY_ANOTHER = 2;

    // What a world by a way comes to.
    private static final int RIGHT = 0;
    private static final int WRONG = 1;
    private static final int FILLER = 2;
    private static final int NOBODYS = 3;

    // The keywords: those of a head's lines first, then what a head asks, so that both are ranges.
    private static final int FAR = 0;
    private static final int BLUR = 1;
    private static final int FADE = 2;
    private static final int PULL = 3;
    private static final int LIMIT = 4;
    private static final int NOBODY = 5;
    private static final int SURE = 6;
    private static final int PART = 7;
    private static final int LINE_WORDS = 8;
    private static final int PARTS = 8;
    private static final int WHOLE = 9;
    private static final int KIN = 10;
    private static final int SECS = 11;
    private static final int LIGHT = 12;
    private static final int FEAR = 13;
    private static final int DAYS = 14;
    private static final int GAP = 15;
    private static final int FIRST = 16;
    private static final int TOLD = 17;
    private static final int ASKED_WORDS = 10;
    private static final int NO = 18;
    private static final int EACH = 19;
    private static final int LED = 20;
    private static final int DRAWN = 21;
    private static final int PRAISE = 22;
    private static final int KEYWORDS = 23;

    // The other tokens; a sign is a token by its own byte, which is above these.
    private static final int NUMBER = 23;
    private static final int ENDING = 24;
    private static final int STRANGE = 25;

    // The steps of a line that has been read: values go onto a stack, signs take them from it.
    private static final int STEP_NUMBER = 0;
    private static final int STEP_ASK = 1;
    private static final int STEP_PLUS = 2;
    private static final int STEP_MINUS = 3;
    private static final int STEP_TIMES = 4;
    private static final int STEP_BY = 5;

    private static final int CANT_STAND = 1;
    private static final int NOT_SO = 2;
    private static final int TOO_MANY = 3;

    private final Face[] faces = new Face[MOST_FACES];
    private final int[][] types = new int[KINS][NUMBERS];
    private final Row[] rows = new Row[ROWS];
    private final Texts texts = new Texts();
    private final Mind[] minds = new Mind[MOST_WITNESSES];
    private final Showing[] showings = new Showing[MOST_SHOWINGS];
    private final World[] worlds = new World[MOST_WORLDS];
    // Showings (by their number) and made faces (by -1 less theirs) in their order, for replays.
    private final int[] deeds = new int[MOST_SHOWINGS + MOST_FACES];
    private final int[] deedDays = new int[MOST_SHOWINGS + MOST_FACES];
    private final Bench bench = new Bench();
    private int faceCount;
    private int madeCount;
    private int mindCount;
    private int showingCount;
    private int worldCount;
    private int deedCount;
    private int now;

    public FaceRows() {
        for (int i = 0; i < MOST_FACES; i++) {
            faces[i] = new Face();
        }
        for (int i = 0; i < KINS; i++) {
            Arrays.fill(types[i], FIRST_TYPE);
        }
        for (int i = 0; i < ROWS; i++) {
            rows[i] = new Row();
        }
        for (int i = 0; i < MOST_WITNESSES; i++) {
            minds[i] = new Mind();
        }
        for (int i = 0; i < MOST_SHOWINGS; i++) {
            showings[i] = new Showing();
        }
        for (int i = 0; i < MOST_WORLDS; i++) {
            worlds[i] = new World();
        }
    }

    // ---- faces, types and rows

    public int face(int kin, int a, int b, int c, int d) {
        if (!isIn(kin, 0, KINS - 1) || faceCount >= MOST_FACES) {
            return NONE;
        }
        Face made = faces[faceCount];
        made.kin = kin;
        made.maker = NONE;
        made.setFour(0, a);
        made.setFour(4, b);
        made.setFour(8, c);
        made.setFour(12, d);
        faceCount++;
        return faceCount - 1;
    }

    public int number(int face, int j) {
        if (!isFace(face)) {
            return NONE;
        }
        Face asked = faces[face];
        if (isIn(j, 0, NUMBERS - 1)) {
            return asked.numbers[j];
        }
        if (j == 16) {
            return asked.kin;
        }
        return j == 17 ? asked.maker : NONE;
    }

    public boolean type(int kin, int face) {
        if (!isIn(kin, 0, KINS - 1) || !isFace(face)) {
            return false;
        }
        System.arraycopy(faces[face].numbers, 0, types[kin], 0, NUMBERS);
        return true;
    }

    public int put(int row, int face) {
        if (!isRow(row) || face != NONE && !isFace(face)) {
            return NONE;
        }
        Row told = rows[row];
        if (told.size >= MOST_PLACES) {
            return NONE;
        }
        told.places[told.size] = face;
        told.size++;
        return told.size;
    }

    public boolean clear(int row) {
        if (!isRow(row)) {
            return false;
        }
        rows[row].size = 0;
        return true;
    }

    // ---- texts

    public int feed(int a, int b, int c, int d, int e) {
        Tape tape = texts.tape;
        if (tape.size + 20 > MOST_BYTES) {
            return NONE;
        }
        tape.addFour(a);
        tape.addFour(b);
        tape.addFour(c);
        tape.addFour(d);
        tape.addFour(e);
        return tape.size;
    }

    public boolean end(int n) {
        if (n < 0 || n > texts.tape.size) {
            return false;
        }
        texts.tape.size = n;
        return true;
    }

    public int text(int sort, int k) {
        return texts.take(sort, k);
    }

    public int fault(int what) {
        if (what == 0) {
            return texts.tape.fault;
        }
        return what == 1 ? texts.tape.faultPlace : NONE;
    }

    // ---- witnesses

    public int days(int n) {
        if (!isIn(n, 1, MOST_DAYS) || now + n > LAST_DAY) {
            return NONE;
        }
        for (int w = 0; w < mindCount; w++) {
            waitDays(minds[w], n);
        }
        now += n;
        return now;
    }

    public int witness(int head, int kin, int seen, int secs, int light, int fear) {
        if (!canSee(head, kin, seen, secs, light, fear) || mindCount >= MOST_WITNESSES) {
            return NONE;
        }
        Mind mind = minds[mindCount];
        mind.setSight(head, kin, seen, secs, light, fear);
        mind.sight = now;
        see(mind, typeOfSeen(mind));
        mindCount++;
        return mindCount - 1;
    }

    public int memory(int w, int j) {
        return isMind(w) && isIn(j, 0, NUMBERS - 1) ? minds[w].memory[j] : NONE;
    }

    public int far(int w, int face) {
        return isMind(w) && isFace(face) ? farOf(minds[w], faces[face]) : NONE;
    }

    public int odds(int w, int row, int kind, int led, int push, int place) {
        if (!isMind(w) || !isRow(row) || kind != AT_ONCE && kind != EACH_ALONE) {
            return NONE;
        }
        if (!canLead(rows[row], led, push) || place != NONE && !rows[row].has(place)) {
            return NONE;
        }
        weigh(minds[w], rows[row], kind, led, push);
        return bench.oddsAt(place);
    }

    public int show(int w, int row, int kind, int led, int push, int pick) {
        if (!isMind(w) || !isRow(row) || !isIn(kind, AT_ONCE, DRAWN_BY_ANOTHER) || showingCount >= MOST_SHOWINGS) {
            return NONE;
        }
        if (!canLead(rows[row], led, push) || !canPick(rows[row], kind, pick)) {
            return NONE;
        }
        Showing told = showings[showingCount];
        told.witness = w;
        told.kind = kind;
        told.day = now;
        told.row.copy(rows[row]);
        told.led = led;
        told.push = push;
        told.pick = pick;
        told.odds = kind == DRAWN_BY_ANOTHER ? 0 : oddsOfPick(minds[w], told);
        told.sure = pick == NONE ? NONE : sureOf(minds[w], told.row, pick);
        pullByShowing(minds[w], told);
        keepDeed(showingCount);
        showingCount++;
        return showingCount - 1;
    }

    public int showing(int i, int what) {
        if (!isShowing(i)) {
            return NONE;
        }
        Showing told = showings[i];
        switch (what) {
            case 0: return told.witness;
            case 1: return told.kind;
            case 2: return told.day;
            case 3: return told.pick;
            case 4: return told.odds;
            case 5: return told.sure;
            default: return isIn(what, 10, 9 + MOST_PLACES) ? told.row.faceAt(what - 10) : NONE;
        }
    }

    public int praise(int w) {
        if (!isMind(w)) {
            return NONE;
        }
        minds[w].told = Math.min(MOST_TOLD, minds[w].told + 1);
        return minds[w].told;
    }

    public int sure(int w, int row, int place) {
        if (!isMind(w) || !isRow(row) || rows[row].faceAt(place) == NONE) {
            return NONE;
        }
        return sureOf(minds[w], rows[row], place);
    }

    public int together(int w, int row) {
        if (!isMind(w) || !isRow(row) || rows[row].countFaces() == 0 || faceCount >= MOST_FACES) {
            return NONE;
        }
        Mind mind = minds[w];
        compose(mind, rows[row]);
        Face made = faces[faceCount];
        made.kin = faces[mind.seen].kin;
        made.maker = w;
        System.arraycopy(bench.composed, 0, made.numbers, 0, NUMBERS);
        mind.pullTo(made.numbers, ask(mind, PULL));
        keepDeed(-1 - faceCount);
        faceCount++;
        madeCount++;
        return faceCount - 1;
    }

    public int known(int w, int face, int what) {
        if (!isMind(w) || !isFace(face)) {
            return NONE;
        }
        int seen = minds[w].seen;
        int apart = faces[face].differenceFrom(faces[seen].numbers);
        if (what == 0) {
            return apart;
        }
        return what == 1 ? countNearer(seen, apart) : NONE;
    }

    public int bred(int w, int row, int reach) {
        if (!isMind(w) || !isRow(row) || !isIn(reach, 0, HIGHEST_REACH)) {
            return NONE;
        }
        Mind mind = minds[w];
        int size = startNest(rows[row]);
        if (size == 0) {
            return NONE;
        }
        int[] seen = faces[mind.seen].numbers;
        for (int round = 1; round <= MOST_ROUNDS; round++) {
            int first = nearestInNest(mind, size, NONE);
            int next = nearestInNest(mind, size, first);
            if (bench.nest[first].differenceFrom(seen) <= reach) {
                return round;
            }
            bench.breed(first, next, round);
            size = MOST_PLACES;
        }
        return NONE;
    }

    // ---- fair rows

    public int score(int face) {
        return isFace(face) ? texts.said.countSo(faces[face].numbers) : NONE;
    }

    public int mock(int row, int place, int what) {
        if (!isRow(row) || rows[row].faceAt(place) == NONE || what != 0 && what != 1) {
            return NONE;
        }
        int odds = mockOdds(rows[row], place);
        if (what == 0) {
            return odds;
        }
        int count = rows[row].countFaces();
        return count == 0 ? NONE : Math.max(0, odds - MILLION / count);
    }

    public int fillers(int row, int face, int k) {
        if (!isRow(row) || !isFace(face) || !isIn(k, 1, MOST_FILLERS)) {
            return NONE;
        }
        int open = startFillers(rows[row], face);
        int own = texts.said.countSo(faces[face].numbers);
        int best = NONE;
        int bestOdds = 0;
        int bestApart = 0;
        for (int set = 1; set < 1 << MOST_PLACES; set++) {
            if (Integer.bitCount(set) != k || (set & ~open) != 0) {
                continue;
            }
            int odds = bench.mockOddsAmong(set, own);
            int apart = bench.apartOf(set);
            if (best == NONE || odds < bestOdds || odds == bestOdds && apart < bestApart) {
                best = set;
                bestOdds = odds;
                bestApart = apart;
            }
        }
        return best;
    }

    // ---- worlds and ways

    public int world(int head, int kin, int doer, int secs, int light, int fear, int waits, int row, int suspect) {
        if (!canSee(head, kin, doer, secs, light, fear) || !isIn(waits, 0, MOST_DAYS) || worldCount >= MOST_WORLDS) {
            return NONE;
        }
        if (!isRow(row) || rows[row].faceAt(suspect) == NONE) {
            return NONE;
        }
        World told = worlds[worldCount];
        told.mind.setSight(head, kin, doer, secs, light, fear);
        told.waits = waits;
        told.row.copy(rows[row]);
        told.suspect = suspect;
        worldCount++;
        return worldCount - 1;
    }

    public int tried(int world, int way, int what) {
        if (!isIn(world, 0, worldCount - 1) || !isIn(way, 0, WAYS - 1) || !isIn(what, RIGHT, NOBODYS)) {
            return NONE;
        }
        tryOut(worlds[world], texts.ways[way]);
        return shareOf(worlds[world], what);
    }

    public long way(int k, int what) {
        if (!isIn(k, 0, WAYS - 1)) {
            return NONE;
        }
        if (what == RIGHT || what == WRONG) {
            sumUp(k);
            return what == RIGHT ? bench.rights[k] : bench.wrongs[k];
        }
        if (what == 2) {
            for (int any = 0; any < WAYS; any++) {
                sumUp(any);
            }
            return bench.isBettered(k) ? 1 : 0;
        }
        if (isIn(what, 10, 9 + BINS)) {
            return allInBin(k, what - 10, true);
        }
        if (isIn(what, 20, 19 + BINS)) {
            return allInBin(k, what - 20, false);
        }
        return what == 30 || what == 31 ? allMissed(k, what == 30) : NONE;
    }

    // ---- replays and two witnesses

    public int replayed(int i, int j) {
        if (!isShowing(i) || showings[i].kind == DRAWN_BY_ANOTHER || j != NONE && !isEarlier(j, i)) {
            return NONE;
        }
        return replay(i, j);
    }

    public int spoilt(int i) {
        if (!isShowing(i) || showings[i].kind == DRAWN_BY_ANOTHER) {
            return NONE;
        }
        int withAll = replay(i, NONE);
        int worst = NONE;
        int most = 0;
        for (int j = 0; j < i; j++) {
            if (isEarlier(j, i)) {
                int unlike = Math.abs(replay(i, j) - withAll);
                if (unlike > most) {
                    most = unlike;
                    worst = j;
                }
            }
        }
        return worst;
    }

    public int both(int v, int w, int row, int place, int what) {
        if (!isMind(v) || !isMind(w) || v == w) {
            return NONE;
        }
        if (what == 0) {
            return areApart(v, w) ? 1 : 0;
        }
        if (what != 1 || !isRow(row) || rows[row].faceAt(place) == NONE) {
            return NONE;
        }
        weigh(minds[v], rows[row], AT_ONCE, NONE, 0);
        int one = bench.oddsAt(place);
        weigh(minds[w], rows[row], AT_ONCE, NONE, 0);
        int other = bench.oddsAt(place);
        return areApart(v, w) ? (int) ((long) one * other / MILLION) : Math.min(one, other);
    }

    public int look(int what) {
        switch (what) {
            case 0: return now;
            case 1: return faceCount;
            case 2: return mindCount;
            case 3: return showingCount;
            case 4: return worldCount;
            case 5: return texts.said.lines;
            case 6: return madeCount;
            default: return NONE;
        }
    }

    // ---- what can be

    private static boolean isIn(int value, int least, int most) {
        return value >= least && value <= most;
    }

    private static int cut(int value, int least, int most) {
        return Math.max(least, Math.min(most, value));
    }

    private boolean isFace(int face) {
        return isIn(face, 0, faceCount - 1);
    }

    private boolean isRow(int row) {
        return isIn(row, 0, ROWS - 1);
    }

    private boolean isMind(int w) {
        return isIn(w, 0, mindCount - 1);
    }

    private boolean isShowing(int i) {
        return isIn(i, 0, showingCount - 1);
    }

    private boolean isEarlier(int j, int i) {
        return isShowing(j) && isShowing(i) && j < i && showings[j].witness == showings[i].witness;
    }

    private boolean canSee(int head, int kin, int seen, int secs, int light, int fear) {
        return isIn(head, 0, HEADS - 1) && isIn(kin, 0, KINS - 1) && isFace(seen)
            && isIn(secs, 0, 999) && isIn(light, 0, 9) && isIn(fear, 0, 9);
    }

    private static boolean canLead(Row row, int led, int push) {
        return isIn(push, 0, HIGHEST_PUSH) && (led == NONE || row.has(led));
    }

    private static boolean canPick(Row row, int kind, int pick) {
        return pick == NONE || kind != DRAWN_BY_ANOTHER && row.faceAt(pick) != NONE;
    }

    // ---- what a witness's head says

    private void askMind(Mind mind) {
        int[] given = bench.given;
        Arrays.fill(given, 0);
        given[SECS - PARTS] = mind.secs;
        given[LIGHT - PARTS] = mind.light;
        given[FEAR - PARTS] = mind.fear;
        given[DAYS - PARTS] = mind.days;
        given[TOLD - PARTS] = mind.told;
    }

    private void askFace(Mind mind, Face face) {
        int[] given = bench.given;
        given[PARTS - PARTS] = differences(face.numbers, mind.memory, 0, WHOLE_FROM);
        given[WHOLE - PARTS] = differences(face.numbers, mind.memory, WHOLE_FROM, NUMBERS);
        given[KIN - PARTS] = face.kin == mind.kin ? 1 : 0;
    }

    private int ask(Mind mind, int word) {
        askMind(mind);
        return texts.heads[mind.head].answer(word, bench.given);
    }

    private int farOf(Mind mind, Face face) {
        askMind(mind);
        askFace(mind, face);
        return texts.heads[mind.head].answer(FAR, bench.given);
    }

    private int sureOf(Mind mind, Row row, int place) {
        int face = row.faceAt(place);
        if (face == NONE) {
            return NONE;
        }
        int first = farOf(mind, faces[face]);
        int gap = gapBehind(mind, row, place, first);
        askMind(mind);
        askFace(mind, faces[face]);
        bench.given[FIRST - PARTS] = first;
        bench.given[GAP - PARTS] = gap;
        return texts.heads[mind.head].answer(SURE, bench.given);
    }

    private int gapBehind(Mind mind, Row row, int place, int first) {
        int least = NONE;
        for (int other = 0; other < MOST_PLACES; other++) {
            int face = row.faceAt(other);
            if (other != place && face != NONE) {
                int distance = farOf(mind, faces[face]);
                least = least == NONE ? distance : Math.min(least, distance);
            }
        }
        return least == NONE ? 0 : Math.max(0, least - first);
    }

    // ---- what becomes of a memory

    private int[] typeOfSeen(Mind mind) {
        return types[faces[mind.seen].kin];
    }

    private void see(Mind mind, int[] type) {
        System.arraycopy(type, 0, mind.type, 0, NUMBERS);
        mind.days = 0;
        int blur = ask(mind, BLUR);
        int[] seen = faces[mind.seen].numbers;
        for (int j = 0; j < NUMBERS; j++) {
            mind.memory[j] = blurred(seen[j], blur);
        }
    }

    private void waitDays(Mind mind, int count) {
        for (int day = 0; day < count; day++) {
            mind.pullTo(mind.type, ask(mind, FADE));
            mind.days++;
        }
    }

    private void pullByShowing(Mind mind, Showing told) {
        int pull = ask(mind, PULL);
        for (int place = 0; place < MOST_PLACES; place++) {
            int face = told.row.faceAt(place);
            if (face != NONE) {
                mind.pullTo(faces[face].numbers, pull / 2);
            }
        }
        int picked = told.row.faceAt(told.pick);
        if (picked != NONE) {
            mind.pullTo(faces[picked].numbers, pull);
        }
    }

    private void compose(Mind mind, Row row) {
        int part = ask(mind, PART);
        int[] composed = bench.composed;
        Arrays.fill(composed, 0);
        for (int p = 0; p < PARTS_COUNT; p++) {
            int taken = nearestByPart(mind, row, 2 * p, part);
            if (taken != NONE) {
                int[] numbers = faces[taken].numbers;
                composed[2 * p] = numbers[2 * p];
                composed[2 * p + 1] = numbers[2 * p + 1];
                for (int j = WHOLE_FROM; j < NUMBERS; j++) {
                    composed[j] += numbers[j];
                }
            }
        }
        for (int j = WHOLE_FROM; j < NUMBERS; j++) {
            composed[j] /= PARTS_COUNT;
        }
    }

    private int nearestByPart(Mind mind, Row row, int j, int part) {
        int one = blurred(mind.memory[j], part);
        int other = blurred(mind.memory[j + 1], part);
        int best = NONE;
        int least = 0;
        for (int place = 0; place < MOST_PLACES; place++) {
            int face = row.faceAt(place);
            if (face != NONE) {
                int[] numbers = faces[face].numbers;
                int apart = Math.abs(numbers[j] - one) + Math.abs(numbers[j + 1] - other);
                if (best == NONE || apart < least) {
                    best = face;
                    least = apart;
                }
            }
        }
        return best;
    }

    private static int blurred(int v, int r) {
        int step = r + 1;
        return step <= 0 ? v : Math.min(HIGHEST_NUMBER, v / step * step + r / 2);
    }

    private static int differences(int[] some, int[] others, int from, int till) {
        int sum = 0;
        for (int j = from; j < till; j++) {
            int more = some[j] - others[j];
            sum += more < 0 ? -more : more;
        }
        return sum;
    }

    private int countNearer(int seen, int apart) {
        int count = 0;
        for (int f = 0; f < faceCount; f++) {
            if (f != seen && faces[f].differenceFrom(faces[seen].numbers) < apart) {
                count++;
            }
        }
        return count;
    }

    // ---- odds

    private void weigh(Mind mind, Row row, int kind, int led, int push) {
        int limit = ask(mind, LIMIT);
        int nobody = ask(mind, NOBODY);
        for (int place = 0; place < MOST_PLACES; place++) {
            int face = row.faceAt(place);
            int weight = face == NONE ? 0 : Math.max(0, limit - farOf(mind, faces[face]));
            bench.weights[place] = face != NONE && place == led ? weight + push : weight;
        }
        bench.shareOut(kind == EACH_ALONE, nobody);
    }

    private int oddsOfPick(Mind mind, Showing told) {
        weigh(mind, told.row, told.kind, told.led, told.push);
        return bench.oddsAt(told.pick);
    }

    private int mockOdds(Row row, int place) {
        int own = NONE;
        int greatest = NONE;
        int alike = 0;
        for (int other = 0; other < MOST_PLACES; other++) {
            int face = row.faceAt(other);
            if (face == NONE) {
                continue;
            }
            int points = texts.said.countSo(faces[face].numbers);
            own = other == place ? points : own;
            if (points > greatest) {
                greatest = points;
                alike = 0;
            }
            alike += points == greatest ? 1 : 0;
        }
        return own == greatest && alike > 0 ? MILLION / alike : 0;
    }

    private int startFillers(Row row, int face) {
        int open = 0;
        for (int place = 0; place < MOST_PLACES; place++) {
            int other = row.faceAt(place);
            if (other != NONE && other != face) {
                open |= 1 << place;
                bench.points[place] = texts.said.countSo(faces[other].numbers);
                bench.aparts[place] = faces[other].differenceFrom(faces[face].numbers);
            }
        }
        return open;
    }

    // ---- breeding

    private int startNest(Row row) {
        int size = 0;
        for (int place = 0; place < MOST_PLACES; place++) {
            int face = row.faceAt(place);
            if (face != NONE) {
                bench.nest[size].copy(faces[face]);
                size++;
            }
        }
        return size;
    }

    // Where no other one is left, the left out one is the answer itself.
    private int nearestInNest(Mind mind, int size, int leftOut) {
        int best = NONE;
        int least = 0;
        for (int i = 0; i < size && i < MOST_PLACES; i++) {
            if (i != leftOut) {
                int distance = farOf(mind, bench.nest[i]);
                if (best == NONE || distance < least) {
                    best = i;
                    least = distance;
                }
            }
        }
        return best == NONE ? Math.max(0, leftOut) : best;
    }

    // ---- worlds by ways

    private void tryOut(World told, Way way) {
        Mind mind = bench.mind;
        mind.copySight(told.mind);
        mind.told = 0;
        see(mind, typeOfSeen(mind));
        if (way.drawnRow != NONE && rows[way.drawnRow].countFaces() > 0) {
            compose(mind, rows[way.drawnRow]);
            mind.pullTo(bench.composed, ask(mind, PULL));
        }
        waitDays(mind, told.waits);
        int led = way.push == NONE ? NONE : told.suspect;
        weigh(mind, told.row, way.isEach ? EACH_ALONE : AT_ONCE, led, Math.max(0, way.push));
    }

    private int shareOf(World told, int what) {
        if (what == NOBODYS) {
            return bench.oddsAt(NONE);
        }
        int sum = 0;
        for (int place = 0; place < MOST_PLACES; place++) {
            int face = told.row.faceAt(place);
            if (face != NONE && told.sortOf(place, face) == what) {
                sum += bench.oddsAt(place);
            }
        }
        return sum;
    }

    private void sumUp(int k) {
        bench.rights[k] = 0;
        bench.wrongs[k] = 0;
        for (int i = 0; i < worldCount; i++) {
            tryOut(worlds[i], texts.ways[k]);
            bench.rights[k] += shareOf(worlds[i], RIGHT);
            bench.wrongs[k] += shareOf(worlds[i], WRONG);
        }
    }

    private long allInBin(int k, int bin, boolean isRight) {
        long sum = 0;
        for (int i = 0; i < worldCount; i++) {
            tryOut(worlds[i], texts.ways[k]);
            bench.mind.told = texts.ways[k].isPraise ? 1 : 0;
            sum += shareInBin(worlds[i], bin, isRight);
        }
        return sum;
    }

    private int shareInBin(World told, int bin, boolean isRight) {
        int sum = 0;
        for (int place = 0; place < MOST_PLACES; place++) {
            int face = told.row.faceAt(place);
            if (face != NONE && (face == told.mind.seen) == isRight) {
                int sure = sureOf(bench.mind, told.row, place);
                sum += Math.min(BINS - 1, sure / 20) == bin ? bench.oddsAt(place) : 0;
            }
        }
        return sum;
    }

    private long allMissed(int k, boolean isOwn) {
        long sum = 0;
        for (int i = 0; i < worldCount; i++) {
            World told = worlds[i];
            boolean isOwnKin = faces[told.mind.seen].kin == told.mind.kin;
            if (isOwnKin == isOwn) {
                tryOut(told, texts.ways[k]);
                sum += shareOf(told, WRONG) + shareOf(told, FILLER);
            }
        }
        return sum;
    }

    // ---- replays

    private void keepDeed(int deed) {
        if (deedCount < deeds.length) {
            deeds[deedCount] = deed;
            deedDays[deedCount] = now;
            deedCount++;
        }
    }

    private int whoseDeed(int deed) {
        if (isShowing(deed)) {
            return showings[deed].witness;
        }
        return isFace(-1 - deed) ? faces[-1 - deed].maker : NONE;
    }

    private int replay(int i, int without) {
        Showing last = showings[i];
        Mind mind = bench.mind;
        Mind real = minds[last.witness];
        mind.copySight(real);
        mind.told = real.told;
        see(mind, real.type);
        for (int d = 0; d < deedCount; d++) {
            int deed = deeds[d];
            if (whoseDeed(deed) == last.witness) {
                waitDays(mind, deedDays[d] - real.sight - mind.days);
                if (deed == i) {
                    break;
                }
                repeatDeed(mind, deed, without);
            }
        }
        return oddsOfPick(mind, last);
    }

    private void repeatDeed(Mind mind, int deed, int without) {
        if (isFace(-1 - deed)) {
            mind.pullTo(faces[-1 - deed].numbers, ask(mind, PULL));
        } else if (isShowing(deed) && deed != without) {
            pullByShowing(mind, showings[deed]);
        }
    }

    private boolean areApart(int v, int w) {
        for (int i = 0; i < showingCount; i++) {
            int shown = showings[i].witness;
            if (shown == v && hasMadeBy(showings[i].row, w) || shown == w && hasMadeBy(showings[i].row, v)) {
                return false;
            }
        }
        return true;
    }

    private boolean hasMadeBy(Row row, int maker) {
        for (int place = 0; place < MOST_PLACES; place++) {
            int face = row.faceAt(place);
            if (face != NONE && faces[face].maker == maker) {
                return true;
            }
        }
        return false;
    }

    /** A kin and sixteen numbers. */
    private static final class Face {
        private final int[] numbers = new int[NUMBERS];
        private int kin;
        private int maker = NONE;

        private void setFour(int from, int bytes) {
            for (int i = 0; i < 4; i++) {
                numbers[from + i] = bytes >> (24 - 8 * i) & HIGHEST_NUMBER;
            }
        }

        private void copy(Face other) {
            kin = other.kin;
            maker = other.maker;
            System.arraycopy(other.numbers, 0, numbers, 0, NUMBERS);
        }

        private int differenceFrom(int[] others) {
            return differences(numbers, others, 0, NUMBERS);
        }
    }

    /** Places with the numbers of faces, or nobody. */
    private static final class Row {
        private final int[] places = new int[MOST_PLACES];
        private int size;

        private boolean has(int place) {
            return place >= 0 && place < size;
        }

        private int faceAt(int place) {
            return place >= 0 && place < size ? places[place] : NONE;
        }

        private int countFaces() {
            int count = 0;
            for (int place = 0; place < size; place++) {
                count += places[place] == NONE ? 0 : 1;
            }
            return count;
        }

        private void copy(Row other) {
            size = other.size;
            System.arraycopy(other.places, 0, places, 0, MOST_PLACES);
        }
    }

    /** A witness: the sight, and what has become of the memory of it. */
    private static final class Mind {
        private final int[] memory = new int[NUMBERS];
        private final int[] type = new int[NUMBERS];
        private int head;
        private int kin;
        private int seen;
        private int secs;
        private int light;
        private int fear;
        private int told;
        private int sight;
        private int days;

        private void setSight(int itsHead, int itsKin, int face, int seconds, int itsLight, int itsFear) {
            head = itsHead;
            kin = itsKin;
            seen = face;
            secs = seconds;
            light = itsLight;
            fear = itsFear;
        }

        private void copySight(Mind other) {
            setSight(other.head, other.kin, other.seen, other.secs, other.light, other.fear);
        }

        private void pullTo(int[] others, int by) {
            for (int j = 0; j < NUMBERS && by != 0; j++) {
                memory[j] += by * (others[j] - memory[j]) / 100;
            }
        }
    }

    /** A row as it was shown, and what was picked. */
    private static final class Showing {
        private final Row row = new Row();
        private int witness;
        private int kind;
        private int day;
        private int led;
        private int push;
        private int pick;
        private int odds;
        private int sure;
    }

    /** A sight whose doer is known, with the row and the suspect that come of it. */
    private static final class World {
        private final Mind mind = new Mind();
        private final Row row = new Row();
        private int waits;
        private int suspect;

        private int sortOf(int place, int face) {
            if (face == mind.seen) {
                return RIGHT;
            }
            return place == suspect ? WRONG : FILLER;
        }
    }

    /** What a call works with and leaves free for the next one. */
    private static final class Bench {
        private final int[] given = new int[ASKED_WORDS];
        private final int[] weights = new int[MOST_PLACES];
        // Nobody's odds stand behind those of the places.
        private final int[] odds = new int[MOST_PLACES + 1];
        private final int[] composed = new int[NUMBERS];
        private final int[] points = new int[MOST_PLACES];
        private final int[] aparts = new int[MOST_PLACES];
        private final long[] rights = new long[WAYS];
        private final long[] wrongs = new long[WAYS];
        private final Mind mind = new Mind();
        private final Face[] nest = new Face[MOST_PLACES];
        private final Face mother = new Face();
        private final Face father = new Face();

        private Bench() {
            for (int i = 0; i < MOST_PLACES; i++) {
                nest[i] = new Face();
            }
        }

        private int oddsAt(int place) {
            return odds[isIn(place, 0, MOST_PLACES - 1) ? place : MOST_PLACES];
        }

        private void shareOut(boolean isEach, int nobody) {
            int all = nobody;
            for (int place = 0; place < MOST_PLACES; place++) {
                all += weights[place];
            }
            int left = MILLION;
            for (int place = 0; place < MOST_PLACES; place++) {
                long weight = weights[place];
                long of = isEach ? left : MILLION;
                long by = isEach ? weight + nobody : all;
                odds[place] = by <= 0 ? 0 : (int) (of * weight / by);
                left -= odds[place];
            }
            odds[MOST_PLACES] = left;
        }

        private boolean isBettered(int k) {
            for (int other = 0; other < WAYS; other++) {
                boolean isUnlike = rights[other] != rights[k] || wrongs[other] != wrongs[k];
                if (isUnlike && rights[other] >= rights[k] && wrongs[other] <= wrongs[k]) {
                    return true;
                }
            }
            return false;
        }

        private int mockOddsAmong(int set, int own) {
            int alike = 1;
            for (int place = 0; place < MOST_PLACES; place++) {
                if ((set >> place & 1) == 1) {
                    if (points[place] > own) {
                        return 0;
                    }
                    alike += points[place] == own ? 1 : 0;
                }
            }
            return alike <= 0 ? 0 : MILLION / alike;
        }

        private int apartOf(int set) {
            int sum = 0;
            for (int place = 0; place < MOST_PLACES; place++) {
                sum += (set >> place & 1) == 1 ? aparts[place] : 0;
            }
            return sum;
        }

        private void breed(int first, int next, int round) {
            if (!isIn(first, 0, MOST_PLACES - 1) || !isIn(next, 0, MOST_PLACES - 1)) {
                return;
            }
            mother.copy(nest[first]);
            father.copy(nest[next]);
            for (int i = 0; i < MOST_PLACES; i++) {
                bear(nest[i], i, round);
            }
        }

        private void bear(Face child, int i, int round) {
            child.copy(mother);
            for (int j = 0; j < NUMBERS; j++) {
                if ((i >> (i + j) % 3 & 1) == 1) {
                    child.numbers[j] = (mother.numbers[j] + father.numbers[j]) / 2;
                }
            }
            if (i > 0) {
                int changed = Math.floorMod(5 * i + round, NUMBERS);
                int more = i % 2 == 1 ? 2 : -2;
                child.numbers[changed] = cut(child.numbers[changed] + more, 0, HIGHEST_NUMBER);
            }
        }
    }

    /** The tape, read token by token, with the fault of the latest text. */
    private static final class Tape {
        private final int[] bytes = new int[MOST_BYTES];
        // One token more than bytes, for the end.
        private final int[] tokens = new int[MOST_BYTES + 1];
        private final int[] places = new int[MOST_BYTES + 1];
        private final int[] worths = new int[MOST_BYTES + 1];
        private int size;
        private int at;
        private int count;
        private int next;
        private int token;
        private int place;
        private int worth;
        private int fault;
        private int faultPlace = NONE;

        private void addFour(int four) {
            for (int i = 0; i < 4 && size < MOST_BYTES; i++) {
                bytes[size] = four >> (24 - 8 * i) & 255;
                size++;
            }
        }

        private void forgetFault() {
            fault = 0;
            faultPlace = NONE;
        }

        private boolean refuse(int sort) {
            fault = sort;
            faultPlace = place;
            return false;
        }

        private void step() {
            if (next < count) {
                token = tokens[next];
                place = places[next];
                worth = worths[next];
                next++;
            }
        }

        private void split() {
            at = 0;
            count = 0;
            for (int turn = 0; turn < MOST_BYTES && at < size; turn++) {
                int start = at;
                int sign = bytes[start];
                if (sign == 32 || sign == 10) {
                    at++;
                } else if (isLetter(sign)) {
                    keep(readWord(start), start, 0);
                } else if (isDigit(sign)) {
                    keep(readNumber(start), start, worth);
                } else {
                    at++;
                    keep(isSign(sign) ? sign : STRANGE, start, 0);
                }
            }
            keep(ENDING, size, 0);
            next = 0;
            step();
        }

        private void keep(int read, int start, int value) {
            if (count <= MOST_BYTES) {
                tokens[count] = read;
                places[count] = start;
                worths[count] = value;
                count++;
            }
        }

        private int readNumber(int start) {
            worth = 0;
            while (at < size && isDigit(bytes[at])) {
                worth = at - start < 4 ? 10 * worth + bytes[at] - '0' : worth;
                at++;
            }
            return at - start > 4 ? STRANGE : NUMBER;
        }

        private int readWord(int start) {
            while (at < size && isLetter(bytes[at])) {
                at++;
            }
            for (int word = 0; word < KEYWORDS; word++) {
                if (stands(spelling(word), start, at)) {
                    return word;
                }
            }
            return STRANGE;
        }

        private boolean stands(String word, int from, int till) {
            if (word.length() != till - from) {
                return false;
            }
            for (int i = 0; i < word.length(); i++) {
                if (word.charAt(i) != bytes[from + i]) {
                    return false;
                }
            }
            return true;
        }

        private static boolean isLetter(int sign) {
            return isIn(sign, 'a', 'z') || isIn(sign, 'A', 'Z');
        }

        private static boolean isDigit(int sign) {
            return isIn(sign, '0', '9');
        }

        private static boolean isSign(int sign) {
            switch (sign) {
                case ';': case '+': case '-': case '*': case '/': case '(': case ')':
                case '<': case '=': case '>':
                    return true;
                default:
                    return false;
            }
        }

        private static String spelling(int word) {
            switch (word) {
                case FAR: return "far";
                case BLUR: return "blur";
                case FADE: return "fade";
                case PULL: return "pull";
                case LIMIT: return "limit";
                case NOBODY: return "nobody";
                case SURE: return "sure";
                case PART: return "part";
                case PARTS: return "parts";
                case WHOLE: return "whole";
                case KIN: return "kin";
                case SECS: return "secs";
                case LIGHT: return "light";
                case FEAR: return "fear";
                case DAYS: return "days";
                case GAP: return "gap";
                case FIRST: return "first";
                case TOLD: return "told";
                case NO: return "no";
                case EACH: return "each";
                case LED: return "led";
                case DRAWN: return "drawn";
                case PRAISE: return "praise";
                default: return "";
            }
        }
    }

    /** The texts that were taken, and the reading of a new one. A draft is kept only if it has no fault. */
    private static final class Texts {
        private static final int MOST_OPEN = 8;

        private final Tape tape = new Tape();
        private final Head[] heads = new Head[HEADS];
        private final Way[] ways = new Way[WAYS];
        private Said said = new Said();
        private Head headDraft = new Head();
        private Way wayDraft = new Way();
        private Said saidDraft = new Said();

        private Texts() {
            for (int k = 0; k < HEADS; k++) {
                heads[k] = new Head();
            }
            for (int k = 0; k < WAYS; k++) {
                ways[k] = new Way();
            }
        }

        private int take(int sort, int k) {
            int lines = NONE;
            tape.forgetFault();
            tape.split();
            if (sort == 0 && isIn(k, 0, HEADS - 1)) {
                lines = readHead() ? keepHead(k) : NONE;
            } else if (sort == 1 && k == 0) {
                lines = readSaid() ? keepSaid() : NONE;
            } else if (sort == 2 && isIn(k, 0, WAYS - 1)) {
                lines = readWay() ? keepWay(k) : NONE;
            }
            tape.size = 0;
            return lines;
        }

        private int keepHead(int k) {
            Head old = heads[k];
            heads[k] = headDraft;
            headDraft = old;
            return heads[k].lines;
        }

        private int keepSaid() {
            Said old = said;
            said = saidDraft;
            saidDraft = old;
            return said.lines;
        }

        private int keepWay(int k) {
            Way old = ways[k];
            ways[k] = wayDraft;
            wayDraft = old;
            return ways[k].lines;
        }

        private boolean readHead() {
            headDraft.empty();
            for (int turn = 0; turn <= MOST_BYTES; turn++) {
                int word = tape.token;
                if (word == ENDING) {
                    return true;
                }
                if (!isIn(word, 0, LINE_WORDS - 1)) {
                    return tape.refuse(CANT_STAND);
                }
                if (headDraft.has(word)) {
                    return tape.refuse(NOT_SO);
                }
                headDraft.open(word);
                tape.step();
                if (!readSum(0) || !readSign(';')) {
                    return false;
                }
                headDraft.close(word);
            }
            return tape.refuse(CANT_STAND);
        }

        private boolean readSum(int open) {
            boolean isRead = readProduct(open);
            for (int turn = 0; turn <= MOST_BYTES && isRead; turn++) {
                int sign = tape.token;
                if (sign != '+' && sign != '-') {
                    return true;
                }
                tape.step();
                isRead = readProduct(open);
                headDraft.add(sign == '+' ? STEP_PLUS : STEP_MINUS, 0);
            }
            return isRead;
        }

        private boolean readProduct(int open) {
            boolean isRead = readUnit(open);
            for (int turn = 0; turn <= MOST_BYTES && isRead; turn++) {
                int sign = tape.token;
                if (sign != '*' && sign != '/') {
                    return true;
                }
                tape.step();
                if (sign == '/') {
                    isRead = readDivisor();
                } else {
                    isRead = readUnit(open);
                    headDraft.add(STEP_TIMES, 0);
                }
            }
            return isRead;
        }

        private boolean readDivisor() {
            if (tape.token != NUMBER) {
                return tape.refuse(CANT_STAND);
            }
            if (tape.worth == 0) {
                return tape.refuse(NOT_SO);
            }
            headDraft.add(STEP_BY, tape.worth);
            tape.step();
            return true;
        }

        private boolean readUnit(int open) {
            int token = tape.token;
            if (token == '(') {
                if (open >= MOST_OPEN) {
                    return tape.refuse(TOO_MANY);
                }
                tape.step();
                return readSum(open + 1) && readSign(')');
            }
            if (token != NUMBER && !isIn(token, PARTS, TOLD)) {
                return tape.refuse(CANT_STAND);
            }
            if (token == NUMBER) {
                headDraft.add(STEP_NUMBER, tape.worth);
            } else {
                headDraft.add(STEP_ASK, token - PARTS);
            }
            tape.step();
            return true;
        }

        private boolean readSign(int sign) {
            if (tape.token != sign) {
                return tape.refuse(CANT_STAND);
            }
            tape.step();
            return true;
        }

        private boolean readNumber(int most) {
            if (tape.token != NUMBER) {
                return tape.refuse(CANT_STAND);
            }
            if (tape.worth > most) {
                return tape.refuse(NOT_SO);
            }
            tape.step();
            return true;
        }

        private boolean readSaid() {
            saidDraft.lines = 0;
            for (int turn = 0; turn <= MOST_BYTES; turn++) {
                if (tape.token == ENDING) {
                    return true;
                }
                if (tape.token != NO) {
                    return tape.refuse(CANT_STAND);
                }
                if (saidDraft.lines >= Said.MOST_LINES) {
                    return tape.refuse(TOO_MANY);
                }
                tape.step();
                if (!readSaidLine(saidDraft.lines) || !readSign(';')) {
                    return false;
                }
                saidDraft.lines++;
            }
            return tape.refuse(CANT_STAND);
        }

        private boolean readSaidLine(int line) {
            int j = tape.worth;
            if (!readNumber(NUMBERS - 1)) {
                return false;
            }
            int sign = tape.token;
            if (sign != '<' && sign != '=' && sign != '>') {
                return tape.refuse(CANT_STAND);
            }
            tape.step();
            int value = tape.worth;
            if (!readNumber(9999)) {
                return false;
            }
            saidDraft.set(line, j, sign, value);
            return true;
        }

        private boolean readWay() {
            wayDraft.empty();
            for (int turn = 0; turn <= MOST_BYTES; turn++) {
                int word = tape.token;
                if (word == ENDING) {
                    return true;
                }
                if (!isIn(word, EACH, PRAISE)) {
                    return tape.refuse(CANT_STAND);
                }
                if (wayDraft.has(word)) {
                    return tape.refuse(NOT_SO);
                }
                tape.step();
                if (!readWayLine(word) || !readSign(';')) {
                    return false;
                }
                wayDraft.lines++;
            }
            return tape.refuse(CANT_STAND);
        }

        private boolean readWayLine(int word) {
            int value = tape.worth;
            if (word == LED && !readNumber(HIGHEST_PUSH) || word == DRAWN && !readNumber(ROWS - 1)) {
                return false;
            }
            wayDraft.set(word, value);
            return true;
        }
    }

    /** A head that has been read: of each line its steps, one behind the other. */
    private static final class Head {
        // Each of eight open brackets holds two values at most, and three more stand outside.
        private static final int MOST_VALUES = 24;
        private static final int[] LEAST = {0, 0, 0, 0, 0, 1, 0, 0};
        private static final int[] MOST = {9999, 15, 100, 100, 9999, 9999, 100, 15};
        private static final int[] USUAL = {0, 0, 0, 0, 100, 10, 50, 0};

        private final int[] steps = new int[MOST_BYTES];
        private final int[] worths = new int[MOST_BYTES];
        private final int[] from = new int[LINE_WORDS];
        private final int[] till = new int[LINE_WORDS];
        private final int[] values = new int[MOST_VALUES];
        private int size;
        private int lines;

        private void empty() {
            size = 0;
            lines = 0;
            Arrays.fill(from, 0);
            Arrays.fill(till, 0);
        }

        private boolean has(int word) {
            return till[word] > from[word];
        }

        private void open(int word) {
            from[word] = size;
        }

        private void close(int word) {
            till[word] = size;
            lines++;
        }

        private void add(int step, int worth) {
            if (size < MOST_BYTES) {
                steps[size] = step;
                worths[size] = worth;
                size++;
            }
        }

        private int answer(int word, int[] given) {
            int value = USUAL[word];
            if (has(word)) {
                value = run(word, given);
            } else if (word == FAR) {
                value = given[PARTS - PARTS] + 2 * given[WHOLE - PARTS];
            }
            return Math.max(LEAST[word], Math.min(MOST[word], value));
        }

        private int run(int word, int[] given) {
            int top = 0;
            for (int i = from[word]; i < till[word] && i < MOST_BYTES; i++) {
                int step = steps[i];
                int worth = worths[i];
                if (step == STEP_NUMBER || step == STEP_ASK) {
                    if (top < MOST_VALUES) {
                        values[top] = step == STEP_NUMBER ? worth : given[worth];
                        top++;
                    }
                } else if (step == STEP_BY) {
                    if (top >= 1 && worth > 0) {
                        values[top - 1] /= worth;
                    }
                } else if (top >= 2) {
                    top--;
                    int other = values[top];
                    if (step == STEP_TIMES) {
                        values[top - 1] *= other;
                    } else {
                        values[top - 1] += step == STEP_PLUS ? other : -other;
                    }
                }
            }
            return values[0];
        }
    }

    /** What was said of the numbers of a face. */
    private static final class Said {
        private static final int MOST_LINES = 12;

        private final int[] which = new int[MOST_LINES];
        private final int[] signs = new int[MOST_LINES];
        private final int[] values = new int[MOST_LINES];
        private int lines;

        private void set(int line, int j, int sign, int value) {
            if (isIn(line, 0, MOST_LINES - 1)) {
                which[line] = j;
                signs[line] = sign;
                values[line] = value;
            }
        }

        private int countSo(int[] numbers) {
            int count = 0;
            for (int line = 0; line < lines && line < MOST_LINES; line++) {
                count += isSo(line, numbers) ? 1 : 0;
            }
            return count;
        }

        private boolean isSo(int line, int[] numbers) {
            if (!isIn(which[line], 0, NUMBERS - 1)) {
                return false;
            }
            int compared = Integer.compare(numbers[which[line]], values[line]);
            switch (signs[line]) {
                case '<': return compared < 0;
                case '=': return compared == 0;
                default: return compared > 0;
            }
        }
    }

    /** A way of asking. */
    private static final class Way {
        private boolean isEach;
        private boolean isPraise;
        private int push = NONE;
        private int drawnRow = NONE;
        private int lines;

        private void empty() {
            isEach = false;
            isPraise = false;
            push = NONE;
            drawnRow = NONE;
            lines = 0;
        }

        private boolean has(int word) {
            switch (word) {
                case EACH: return isEach;
                case PRAISE: return isPraise;
                case LED: return push != NONE;
                default: return drawnRow != NONE;
            }
        }

        private void set(int word, int value) {
            switch (word) {
                case EACH: isEach = true; break;
                case PRAISE: isPraise = true; break;
                case LED: push = value; break;
                default: drawnRow = value; break;
            }
        }
    }
}
