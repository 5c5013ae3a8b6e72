/**
 * The sentences of the document's terms that name a boundary: fair rows (section 4), worlds and ways (5),
 * what is replayed and two who saw (6), and what is known of a face, each from just inside and just outside.
 */
public final class AskingBoundariesTest extends Checks {
    public static void main(String[] args) {
        knownIsLess();
        whatIsSo();
        mockOdds();
        unfair();
        fillersAnotherOne();
        fillersLeastOdds();
        fillersLeastDifferences();
        fillersLeastNumber();
        worldsAsTheyAre();
        aWaitOfDays();
        rightWrongFiller();
        ledAndEach();
        drawnAheadOfTheWaiting();
        drawnFromARowWithoutAFace();
        bettered();
        bins();
        praised();
        kins();
        manyWorlds();
        replayedFromTheSight();
        replayedWithout();
        replayedAsItWas();
        spoiltAboveZero();
        spoiltMost();
        apart();
        multiplied();
        finish("AskingBoundariesTest");
    }

    private static FaceRows tens(String head) {
        FaceRows x = new FaceRows();
        flat(x, 0, 10);
        text(x, 0, 0, head);
        x.witness(0, 0, 0, 0, 0, 0);
        return x;
    }

    // "0 the differences of all NUMBERS together, 1 how many FACES (but the one SEEN) differ less from the one SEEN"
    private static void knownIsLess() {
        FaceRows x = tens("blur 15;");
        // 2, 3, 3 and 4 away; then a twin, and 16 times 21 away
        faceOf(x, 1, numbers(10, 0, 12));
        faceOf(x, 2, numbers(10, 0, 9, 15, 12));
        faceOf(x, 3, numbers(10, 11, 7));
        faceOf(x, 4, numbers(10, 12, 14));
        faceOf(x, 5, numbers(10));
        flat(x, 0, 31);
        int[] away = {0, 2, 3, 3, 4, 0, 336};
        int[] less = {0, 1, 2, 2, 4, 0, 5};
        for (int i = 0; i < 7; i++) {
            due("known " + i, x.known(0, i, 0), away[i]);
            due("known less than " + i, x.known(0, i, 1), less[i]);
        }
        x.days(1);
        x.put(0, 0);
        due("one put together is a face too", x.together(0, 0), 7);
        due("known less than 1", x.known(0, 1, 1), 2);
        x.witness(0, 0, 6, 0, 0, 0);
        due("the other way round", x.known(1, 0, 0), 336);
        due("less than 336 from 31: 1, 2 and 4", x.known(1, 0, 1), 3);
        x.witness(0, 0, 1, 0, 0, 0);
        due("less than 6 from 1: all but 6, the first face as well", x.known(2, 4, 1), 5);
    }

    // "SCORE of a FACE: how many of these are so"
    private static void whatIsSo() {
        int[][] cases = {{6, 0, 0, 1}, {7, 0, 1, 0}, {8, 1, 0, 0}, {0, 0, 0, 1}, {31, 1, 0, 0}, {32, 1, 0, 0}, {9999, 1, 0, 0}};
        for (int[] c : cases) {
            FaceRows x = tens("");
            faceOf(x, 0, numbers(20, 3, 7));
            String[] signs = {"<", "=", ">"};
            for (int i = 0; i < 3; i++) {
                text(x, 1, 0, "no 3 " + signs[i] + " " + c[0] + ";");
                due("7 " + signs[i] + " " + c[0], x.score(1), c[i + 1]);
            }
        }
        FaceRows x = tens("");
        faceOf(x, 0, numbers(20, 3, 0, 4, 31));
        text(x, 1, 0, "no 3 < 1; no 3 < 0; no 3 = 0; no 3 > 0; no 4 > 30; no 4 > 31; no 4 = 31; no 4 < 31; no 4 < 32;");
        due("of 0 and 31", x.score(1), 5);
        text(x, 1, 0, "no 3 = 0;".repeat(12));
        due("twelve of twelve", x.score(1), 12);
        text(x, 1, 0, "no 3 = 0;".repeat(11) + "no 3 = 1;");
        due("eleven of twelve", x.score(1), 11);
        due("none of twelve", x.score(0), 0);
    }

    // "MOCK ODDS of a PLACE: 1000000 by the number of FACES of the ROW with the greatest SCORE .. else 0"
    private static void mockOdds() {
        FaceRows x = tens("");
        flat(x, 0, 20);
        flat(x, 0, 30);
        for (int n = 1; n <= 9; n++) {
            x.put(0, 0);
            for (int place = 0; place < n; place++) {
                due("one of " + n, x.mock(0, place, 0), 1000000 / n);
                due("fair of " + n, x.mock(0, place, 1), 0);
            }
        }
        text(x, 1, 0, "no 0 > 15; no 0 > 25;");
        due("the greatest score is 0", x.mock(0, 8, 0), 111111);
        row(x, 0, 0, 1, -1, 1, -1);
        due("not the greatest", x.mock(0, 0, 0), 0);
        due("one of two", x.mock(0, 1, 0), 500000);
        due("the other one", x.mock(0, 3, 0), 500000);
        due("nobody", x.mock(0, 2, 0), -1);
        x.put(0, 2);
        due("no more the greatest", x.mock(0, 1, 0), 0);
        due("the greatest alone", x.mock(0, 5, 0), 1000000);
        row(x, 0, -1, 0);
        due("alone in the row", x.mock(0, 1, 0), 1000000);
    }

    // "UNFAIR: MOCK ODDS less 1000000 by the number of FACES in the ROW (0 at least)"
    private static void unfair() {
        FaceRows x = tens("");
        flat(x, 0, 20);
        text(x, 1, 0, "no 0 > 15;");
        row(x, 0, 0, 1, 0);
        due("all of it less a third", x.mock(0, 1, 1), 666667);
        due("0 less a third", x.mock(0, 0, 1), 0);
        row(x, 0, 0, 1, 1, -1, -1);
        due("half less a third: nobody is no face", x.mock(0, 2, 1), 166667);
        row(x, 0, 1, -1);
        due("alone: all less all", x.mock(0, 0, 1), 0);
        row(x, 0, 1, 0, 0, 0, 0, 0, 0, 0, 0);
        due("one that stands out of nine", x.mock(0, 0, 1), 888889);
    }

    // "k PLACES of it (that have a FACE, another one)"; "NONE if there are not so many"
    private static void fillersAnotherOne() {
        FaceRows x = tens("");
        for (int v = 11; v < 20; v++) {
            flat(x, 0, v);
        }
        due("an empty row", x.fillers(0, 0, 1), -1);
        row(x, 0, -1, 0, -1);
        due("nobody, and the face itself", x.fillers(0, 0, 1), -1);
        x.put(0, 1);
        due("one", x.fillers(0, 0, 1), 8);
        due("not two", x.fillers(0, 0, 2), -1);
        due("another face's: the first one", x.fillers(0, 1, 1), 2);
        due("a face that isn't in the row", x.fillers(0, 2, 2), 2 + 8);
        row(x, 0, 1, 2, 3, 4, 5, 6, 7, 8, 9);
        due("eight of nine: the nearest", x.fillers(0, 0, 8), 255);
        due("nine of nine", x.fillers(0, 0, 9), -1);
        due("none of nine", x.fillers(0, 0, 0), -1);
        due("eight of eight", x.fillers(0, 5, 8), 511 - 16);
        due("one of nine", x.fillers(0, 0, 1), 1);
        row(x, 0, 1, 2, 3, 4, 5, 6, 7, 8, 8);
        due("seven of seven", x.fillers(0, 8, 7), 127);
        due("eight of seven", x.fillers(0, 8, 8), -1);
        due("the place of a ninth", x.fillers(0, 1, 8), 510);
    }

    // "so that in a ROW of that FACE and theirs its MOCK ODDS are least"
    private static void fillersLeastOdds() {
        FaceRows x = tens("");
        int near = flat(x, 0, 11);
        int more = flat(x, 0, 25);
        int alike = faceOf(x, 0, numbers(20, 0, 10));
        text(x, 1, 0, "no 0 = 10; no 1 = 10; no 2 = 25; no 3 = 25; no 4 = 25;");
        // The face's score is 2, near's 0, more's 3, alike's 1
        due("score", x.score(0), 2);
        due("score of the near one", x.score(near), 0);
        due("score of one with more", x.score(more), 3);
        due("score of one with less", x.score(alike), 1);
        row(x, 0, near, alike, more);
        due("one with more: 0", x.fillers(0, 0, 1), 4);
        due("one with more, and the nearest", x.fillers(0, 0, 2), 5);
        row(x, 0, near, alike);
        due("all with less: the nearest", x.fillers(0, 0, 1), 1);
        int far = faceOf(x, 0, numbers(31, 0, 10, 1, 10));
        due("score of one as good, but far", x.score(far), 2);
        row(x, 0, near, alike, far);
        due("one as good: half", x.fillers(0, 0, 1), 4);
        due("one as good, and the nearest", x.fillers(0, 0, 2), 5);
        row(x, 0, near, far, far);
        due("two as good: a third", x.fillers(0, 0, 2), 6);
        row(x, 0, far, more, far);
        due("0 is less than a third; the first of two as far", x.fillers(0, 0, 2), 3);
    }

    // "of several those whose differences from it (all sixteen NUMBERS of each) are least together"
    private static void fillersLeastDifferences() {
        for (int j = 0; j < 16; j++) {
            FaceRows x = tens("");
            faceOf(x, 0, numbers(10, j, 13));
            faceOf(x, 0, numbers(10, (j + 1) % 16, 8));
            faceOf(x, 0, numbers(10, j, 14));
            row(x, 0, 1, 2, 3);
            due("2 is less than 3, by number " + j, x.fillers(0, 0, 1), 2);
            due("2 and 3 are less than 4", x.fillers(0, 0, 2), 3);
        }
        FaceRows x = tens("");
        faceOf(x, 0, numbers(10, 0, 12));
        faceOf(x, 0, numbers(10, 1, 9, 2, 11));
        faceOf(x, 0, numbers(10, 1, 9, 12, 10));
        row(x, 0, 1, 2, 3);
        due("1 is less than 2 and 2", x.fillers(0, 0, 1), 4);
        due("2 and 1, of 2 and 2 the first", x.fillers(0, 0, 2), 5);
    }

    // "of several the least as a number (PLACE i counts 2 to the i)"
    private static void fillersLeastNumber() {
        FaceRows x = tens("");
        flat(x, 0, 11);
        flat(x, 0, 9);
        row(x, 0, 1, 2, 1, -1, 2, 1, 0, 2, 1);
        int[] want = {1, 3, 7, 23, 55, 183, 439};
        for (int k = 1; k <= 7; k++) {
            due("the least of " + k, x.fillers(0, 0, k), want[k - 1]);
        }
        due("eight of seven", x.fillers(0, 0, 8), -1);
        row(x, 0, -1, -1, -1, -1, -1, -1, -1, -1, 1);
        due("place 8 counts 256", x.fillers(0, 0, 1), 256);
    }

    // "a ROW (as it is then)"; "the TYPE as it is when it is asked"; WORLDS are no WITNESSES
    private static void worldsAsTheyAre() {
        FaceRows x = tens("");
        flat(x, 0, 12);
        row(x, 0, 0, 1);
        due("a world", x.world(1, 0, 0, 0, 0, 0, 1, 0, 1), 0);
        x.clear(0);
        due("the row as it was", x.tried(0, 0, 0), 100000000 / 170);
        due("no witness", x.look(2), 1);
        text(x, 0, 1, "fade 100;");
        due("the head as it is: 16 is 96 and 64 away", x.tried(0, 0, 1), 20000000 / 30);
        x.type(0, 1);
        due("the type as it is", x.tried(0, 0, 1), 100000000 / 170);
        x.type(0, 0);
        due("the type as it is then", x.tried(0, 0, 0), 100000000 / 170);
        text(x, 0, 1, "limit secs + 10 * light + 100 * fear; far 0; nobody days;");
        x.put(0, 0);
        x.world(1, 0, 0, 999, 9, 9, 0, 0, 0);
        due("a sight: 1989 of 1990, nobody is 1 at least", x.tried(1, 0, 0), (int) (1989000000L / 1990));
        x.world(1, 0, 0, 0, 0, 0, 60, 0, 0);
        due("no weight", x.tried(2, 0, 0), 0);
        due("nobody", x.tried(2, 0, 3), 1000000);
        due("day after day now", x.days(60), 60);
        due("a world is not older for it", x.tried(1, 0, 0), (int) (1989000000L / 1990));
    }

    // "DAYS 0 .. 60 of waiting"; "so many DAYS go by; then ODDS"
    private static void aWaitOfDays() {
        int[] waits = {0, 1, 2, 58, 59, 60};
        for (int wait : waits) {
            FaceRows x = tens("far 0; limit 60; nobody 100 + days;");
            x.put(0, 0);
            x.world(0, 0, 0, 0, 0, 0, wait, 0, 0);
            due("days of a wait of " + wait, x.tried(0, 0, 0), 60000000 / (160 + wait));
            // 100 from the last day on
            text(x, 0, 0, "fade 100 * (days + 2 - " + wait + "); far parts / 12;");
            due("the last of " + wait + " days", x.tried(0, 0, 0), wait == 0 ? 100000000 / 110 : 94000000 / 104);
            text(x, 0, 0, "fade 100 * (days + 1 - " + wait + "); far parts / 12;");
            due("days ahead of the last of " + wait, x.tried(0, 0, 0), 100000000 / 110);
        }
    }

    // "RIGHT: ODDS of PLACES with the DOER, together; WRONG: of the SUSPECT's PLACE, if it has another FACE; FILLER: of all others"
    private static void rightWrongFiller() {
        FaceRows x = tens("far 0; limit 10; nobody 10;");
        flat(x, 0, 11);
        flat(x, 0, 12);
        int[][] rows = {{0, 1, 2}, {0, 1, 2}, {1, 2, 1}, {0, 0, 1}, {0, -1, 0}, {0}, {1}, {1, 1, -1}};
        int[] suspects = {1, 0, 2, 1, 2, 0, 0, 0};
        int[][] want = {{250000, 250000, 250000}, {250000, 0, 500000}, {0, 250000, 500000}, {500000, 0, 250000},
            {666666, 0, 0}, {500000, 0, 0}, {0, 500000, 0}, {0, 333333, 333333}};
        for (int i = 0; i < rows.length; i++) {
            row(x, 0, rows[i]);
            due("a world", x.world(0, 0, 0, 0, 0, 0, 0, 0, suspects[i]), i);
            int sum = 0;
            for (int what = 0; what < 3; what++) {
                due("world " + i + ", what " + what, x.tried(i, 0, what), want[i][what]);
                sum += want[i][what];
            }
            due("nobody's odds", x.tried(i, 0, 3), 1000000 - sum);
        }
        due("what 4", x.tried(0, 0, 4), -1);
        due("what -1", x.tried(0, 0, -1), -1);
    }

    // "each: the ROW by KIND 1 (else 0); led: the SUSPECT's PLACE is LED to with PUSH N"
    private static void ledAndEach() {
        FaceRows x = tens("far 0; limit 10; nobody 10;");
        flat(x, 0, 11);
        row(x, 0, 0, 1);
        x.world(0, 0, 0, 0, 0, 0, 0, 0, 1);
        x.world(0, 0, 0, 0, 0, 0, 0, 0, 0);
        Object[][] cases = {{"", 333333, 333333, 333333}, {"each;", 500000, 250000, 500000}, {"led 0;", 333333, 333333, 333333},
            {"led 1;", 322580, 354838, 354838}, {"led 99;", 10000000 / 129, 109000000 / 129, 109000000 / 129},
            {"each; led 99;", 500000, (int) (109L * 500000 / 119), 109000000 / 119}, {"praise;", 333333, 333333, 333333}};
        for (int k = 0; k < 4; k++) {
            for (Object[] c : cases) {
                text(x, 2, k, (String) c[0]);
                due("right by '" + c[0] + "'", x.tried(0, k, 0), (Integer) c[1]);
                due("wrong by '" + c[0] + "'", x.tried(0, k, 1), (Integer) c[2]);
                due("the suspect is the doer, by '" + c[0] + "'", x.tried(1, k, 0), (Integer) c[3]);
            }
            text(x, 2, k, "");
        }
    }

    // "drawn: ahead of the waiting she PUTS TOGETHER from ROW N (0 .. 5; as it is when it is asked; it does not come as a FACE)"
    private static void drawnAheadOfTheWaiting() {
        for (int n = 0; n < 6; n++) {
            FaceRows x = tens("pull 100; limit 500;");
            flat(x, 0, 12);
            flat(x, 0, 14);
            row(x, (n + 1) % 6, 0);
            x.world(0, 0, 0, 0, 0, 0, 0, (n + 1) % 6, 0);
            text(x, 2, 0, "drawn " + n + ";");
            due("row " + n + " has no face", x.tried(0, 0, 0), 500000000 / 510);
            row(x, n, 1);
            due("row " + n + ": 12 is 40 away", x.tried(0, 0, 0), 460000000 / 470);
            row(x, n, 2);
            due("row " + n + " as it is when it is asked", x.tried(0, 0, 0), 420000000 / 430);
            due("without drawn", x.tried(0, 1, 0), 500000000 / 510);
            due("no face came", x.look(1), 3);
            due("none was made", x.look(6), 0);
        }
        // Drawn to 12, then a day to the type 16: 24 * 5 away; the other way round it would be 12 again
        FaceRows x = tens("pull 100; fade 100; limit 500;");
        flat(x, 0, 12);
        row(x, 0, 0);
        row(x, 1, 1);
        x.world(0, 0, 0, 0, 0, 0, 1, 0, 0);
        text(x, 2, 0, "drawn 1;");
        due("ahead of the waiting", x.tried(0, 0, 0), 380000000 / 390);
        text(x, 0, 0, "pull 100 * days; limit 500;");
        due("with 0 days", x.tried(0, 0, 0), 500000000 / 510);
        // There may be 120 faces
        text(x, 0, 0, "pull 100; limit 500;");
        while (flat(x, 0, 1) != -1) {
            x.look(1);
        }
        due("drawn, with 120 faces", x.tried(0, 0, 0), 460000000 / 470);
    }

    // "not if it has no FACE"
    private static void drawnFromARowWithoutAFace() {
        FaceRows x = tens("pull 100; limit 500;");
        flat(x, 0, 12);
        row(x, 0, 0);
        x.world(0, 0, 0, 0, 0, 0, 0, 0, 0);
        text(x, 2, 0, "drawn 5;");
        due("an empty row", x.tried(0, 0, 0), 500000000 / 510);
        row(x, 5, -1, -1, -1, -1, -1, -1, -1, -1);
        due("a row of nobody", x.tried(0, 0, 0), 500000000 / 510);
        x.put(5, 1);
        due("a row of nobody and one face", x.tried(0, 0, 0), 460000000 / 470);
        x.clear(5);
        due("an empty row again", x.tried(0, 0, 0), 500000000 / 510);
    }

    private static void betteredIs(FaceRows x, int... want) {
        for (int k = 0; k < 4; k++) {
            due("bettered " + k, x.way(k, 2), want[k]);
        }
    }

    // "BETTERED by another one, if that has in all WORLDS together RIGHT at least as much, WRONG at most as much, and one of both unlike"
    private static void bettered() {
        FaceRows x = tens("far 0; limit 10; nobody 10;");
        flat(x, 0, 11);
        betteredIs(x, 0, 0, 0, 0);
        text(x, 2, 1, "led 10;");
        betteredIs(x, 0, 0, 0, 0);
        // Without the doer: as right, more wrong
        row(x, 0, 1);
        x.world(0, 0, 0, 0, 0, 0, 0, 0, 0);
        betteredIs(x, 0, 1, 0, 0);
        // The doer alone: more right, as wrong
        FaceRows y = tens("far 0; limit 10; nobody 10;");
        flat(y, 0, 11);
        row(y, 0, 0);
        y.world(0, 0, 0, 0, 0, 0, 0, 0, 0);
        betteredIs(y, 0, 0, 0, 0);
        text(y, 2, 3, "led 10;");
        betteredIs(y, 1, 1, 1, 0);
        text(y, 2, 2, "led 11;");
        betteredIs(y, 1, 1, 0, 1);
        // Both worlds: more right and more wrong by led
        row(y, 0, 1);
        y.world(0, 0, 0, 0, 0, 0, 0, 0, 0);
        betteredIs(y, 0, 0, 0, 0);
        // Praise and drawn from nothing change neither
        text(y, 2, 2, "praise; drawn 5;");
        betteredIs(y, 0, 0, 0, 0);
        // The doer and a suspect: led is less right and more wrong
        FaceRows z = tens("far 0; limit 10; nobody 10;");
        flat(z, 0, 11);
        row(z, 0, 0, 1);
        z.world(0, 0, 0, 0, 0, 0, 0, 0, 1);
        text(z, 2, 0, "led 10;");
        betteredIs(z, 1, 0, 0, 0);
        // By the first one alone, by the last one alone
        String[] led = {"led 40;", "led 10;", "led 20;", "led 30;"};
        for (int better = 0; better < 4; better++) {
            for (int k = 0; k < 4; k++) {
                text(z, 2, k, k == better ? "led 9;" : led[k]);
            }
            betteredIs(z, better == 0 ? 0 : 1, better == 1 ? 0 : 1, better == 2 ? 0 : 1, better == 3 ? 0 : 1);
        }
        for (int k = 0; k < 4; k++) {
            text(z, 2, k, k == 0 ? "led 10;" : "");
        }
        // Each: 500000 and 250000 against 333333 and 333333
        text(z, 2, 1, "each;");
        betteredIs(z, 1, 0, 1, 1);
    }

    // "BINS 0 .. 4 (SURE by 20, 100 is in 4)"
    private static void bins() {
        int[][] cases = {{0, 0}, {1, 0}, {19, 0}, {20, 1}, {21, 1}, {39, 1}, {40, 2}, {59, 2}, {60, 3}, {79, 3}, {80, 4}, {99, 4}, {100, 4}, {101, 4}};
        for (int[] c : cases) {
            FaceRows x = tens("far 0; limit 10; nobody 10; sure " + c[0] + ";");
            flat(x, 0, 11);
            row(x, 0, 0, 1, -1, 1);
            x.world(0, 0, 0, 0, 0, 0, 0, 0, 1);
            for (int bin = 0; bin < 5; bin++) {
                due("sure " + c[0] + ", right in bin " + bin, x.way(0, 10 + bin), bin == c[1] ? 250000 : 0);
                due("sure " + c[0] + ", not in bin " + bin, x.way(0, 20 + bin), bin == c[1] ? 500000 : 0);
            }
            due("bin 5", x.way(0, 15), -1);
            due("bin -1", x.way(0, 9), -1);
            due("bin 5, not", x.way(0, 25), -1);
            due("bin -1, not", x.way(0, 19), -1);
        }
        FaceRows x = tens("far parts / 12; limit 10; nobody 10; sure 19 + gap;");
        flat(x, 0, 11);
        row(x, 0, 0, 1, 0);
        x.world(0, 0, 0, 0, 0, 0, 0, 0, 1);
        // The doer is there twice: no gap; weights 10, 9 and 10
        due("right, without a gap", x.way(0, 10), 2 * (10000000 / 39));
        row(x, 0, 0, 1);
        x.world(0, 0, 0, 0, 0, 0, 0, 0, 1);
        due("right, with a gap of 1", x.way(0, 11), 10000000 / 29);
        due("not, without a gap in both worlds", x.way(0, 20), 9000000 / 39 + 9000000 / 29);
    }

    // "praise: told is 1 when SURE is asked"
    private static void praised() {
        FaceRows x = tens("far 0; limit 10 + 50 * told; nobody 10; sure 20 * told + 19;");
        x.put(0, 0);
        x.world(0, 0, 0, 0, 0, 0, 0, 0, 0);
        text(x, 2, 1, "praise;");
        due("without praise", x.way(0, 10), 500000);
        due("with praise", x.way(1, 11), 500000);
        due("not in the other bin", x.way(1, 10), 0);
        due("not in the odds", x.way(1, 0), 500000);
        x.praise(0);
        due("the witnesses that there are don't matter", x.way(0, 10), 500000);
    }

    // "KINS: all ODDS of PICKS that have a FACE and are not RIGHT, where the DOER's KIN is the WITNESS's own, and where not"
    private static void kins() {
        FaceRows x = tens("far 0; limit 10; nobody 10;");
        flat(x, 3, 11);
        row(x, 0, 0, 1, 1, -1);
        x.world(0, 0, 0, 0, 0, 0, 0, 0, 1);
        due("own: two of four", x.way(0, 30), 500000);
        due("not own", x.way(0, 31), 0);
        x.world(0, 3, 0, 0, 0, 0, 0, 0, 0);
        due("own as it was", x.way(0, 30), 500000);
        due("the doer's kin is another one", x.way(0, 31), 500000);
        x.world(0, 3, 1, 0, 0, 0, 0, 0, 0);
        due("own, by kin 3", x.way(0, 30), 750000);
        due("what 29", x.way(0, 29), -1);
        due("what 32", x.way(0, 32), -1);
    }

    // "in all WORLDS": none, one, and forty
    private static void manyWorlds() {
        FaceRows x = tens("far 0; limit 9999; nobody 1;");
        flat(x, 0, 11);
        row(x, 0, 0);
        for (int what = 0; what < 32; what += what == 2 ? 8 : 1) {
            boolean isAsked = what < 3 || what >= 10 && what < 15 || what >= 20 && what < 25 || what >= 30;
            due("no worlds, what " + what, x.way(3, what), isAsked ? 0 : -1);
        }
        for (int i = 0; i < 40; i++) {
            due("a world", x.world(0, 0, i < 20 ? 0 : 1, 0, 0, 0, 0, 0, 0), i);
        }
        due("the 41st", x.world(0, 0, 0, 0, 0, 0, 0, 0, 0), -1);
        due("right in all", x.way(0, 0), 20L * 999900);
        due("wrong in all", x.way(0, 1), 20L * 999900);
        due("right in bin 2", x.way(0, 12), 20L * 999900);
        due("not in bin 2", x.way(0, 22), 20L * 999900);
        due("own kin", x.way(0, 30), 20L * 999900);
        text(x, 2, 1, "led 99;");
        due("led", x.way(1, 0), 20 * (10098000000L / 10099));
    }

    // "all of a WITNESS from the sight on, DAYS, SHOWINGS and faces PUT TOGETHER in their order .. up to ahead of SHOWING i"
    private static void replayedFromTheSight() {
        FaceRows x = new FaceRows();
        flat(x, 0, 10);
        flat(x, 0, 30);
        x.put(0, 0);
        x.put(1, 1);
        x.days(3);
        text(x, 0, 0, "fade 50 * days; pull 50; limit 2000; blur 1;");
        x.type(0, 0);
        x.witness(0, 0, 1, 0, 0, 0);
        x.type(0, 1);
        due("shown at once", x.show(0, 1, 0, -1, 0, 0), 0);
        x.days(1);
        x.together(0, 0);
        x.show(0, 1, 0, -1, 0, 0);
        x.days(1);
        x.show(0, 1, 1, -1, 0, 0);
        x.together(0, 0);
        x.days(1);
        x.show(0, 1, 0, 0, 7, -1);
        for (int i = 0; i < 4; i++) {
            due("replayed with all, " + i, x.replayed(i, -1), x.showing(i, 4));
        }
        x.days(5);
        x.together(0, 0);
        x.show(0, 1, 0, -1, 0, -1);
        for (int i = 0; i < 5; i++) {
            due("what is later changes nothing, " + i, x.replayed(i, -1), x.showing(i, 4));
        }
        // Others' days, showings and faces aside
        x.witness(0, 0, 0, 0, 0, 0);
        x.show(1, 1, 0, -1, 0, 0);
        x.together(1, 1);
        x.show(1, 1, 0, -1, 0, 0);
        due("another one", x.replayed(6, -1), x.showing(6, 4));
        due("as it was", x.replayed(4, -1), x.showing(4, 4));
        due("the memory is as it is", x.memory(0, 0) == x.memory(1, 0), false);
    }

    // "j left out"; "j not ahead of i, or of another WITNESS"; "i of KIND 2"
    private static void replayedWithout() {
        FaceRows x = tens("pull 100; limit 400;");
        flat(x, 0, 12);
        row(x, 0, 0);
        row(x, 1, 1);
        x.witness(0, 0, 0, 0, 0, 0);
        x.show(0, 1, 0, -1, 0, 0);
        x.show(1, 1, 0, -1, 0, 0);
        x.show(0, 0, 0, -1, 0, 0);
        x.show(0, 1, 2, -1, 0, -1);
        x.show(0, 0, 1, -1, 0, 0);
        due("with all: 12 is 40 away", x.replayed(2, -1), 360000000 / 370);
        due("without 0", x.replayed(2, 0), 400000000 / 410);
        int[] cant = {-2, 1, 2, 3, 4, 5, Integer.MAX_VALUE, Integer.MIN_VALUE};
        for (int j : cant) {
            due("not without " + j, x.replayed(2, j), -1);
        }
        int[] none = {-1, 3, 5};
        for (int i : none) {
            due("no such showing, or drawn: " + i, x.replayed(i, -1), -1);
        }
        due("the first has none ahead", x.replayed(0, 0), -1);
        due("the first with all", x.replayed(0, -1), 360000000 / 370);
        // To 10 by 2, then by half to 12: 11
        due("4 with all", x.replayed(4, -1), 380000000 / 390);
        due("4 without what was drawn", x.replayed(4, 3), 400000000 / 410);
        due("4 without 0", x.replayed(4, 0), 380000000 / 390);
        due("4 without 2: 12 as it is", x.replayed(4, 2), 360000000 / 370);
        due("not without 1 of another one", x.replayed(4, 1), -1);
    }

    // "(with their PICKS and what was put together as it was)"; "(of nobody, if none)"; "HEADS and told as they are now"
    private static void replayedAsItWas() {
        FaceRows x = tens("pull 50; limit 400;");
        flat(x, 0, 20);
        row(x, 0, 1);
        row(x, 1, 0);
        x.show(0, 1, 0, -1, 0, -1);
        due("put together", x.together(0, 0), 2);
        x.show(0, 1, 0, -1, 0, -1);
        due("nobody's odds", x.replayed(1, -1), x.showing(1, 4));
        due("15 is 100 away", x.replayed(1, -1), 1000000 - 300000000 / 310);
        x.clear(0);
        x.clear(1);
        due("rows as they were", x.replayed(1, -1), 1000000 - 300000000 / 310);
        text(x, 0, 0, "limit 400;");
        due("no pull now", x.replayed(1, -1), 1000000 - 400000000 / 410);
        text(x, 0, 0, "limit 400; pull 100;");
        due("all of it now", x.replayed(1, -1), 1000000 - 200000000 / 210);
        text(x, 0, 0, "limit 400 + told; pull 10 * told; blur told;");
        due("told 0", x.replayed(1, -1), 1000000 - 400000000 / 410);
        x.praise(0);
        // Blurred by 1: 10; pulled by 5 and by 10: to 11, at 20 away; 401
        due("told 1", x.replayed(1, -1), 1000000 - 381000000 / 391);
        due("the memory is as it was", x.memory(0, 0), 14);
    }

    /**
     * A place whose weight is 99 less the parts that a strange face is away, behind one that leaves 100:
     * odds of 99 or 98, as its number 0 of 10 is met or missed by 1.
     */
    private static FaceRows hairsbreadth(int seenAtFirst) {
        FaceRows x = new FaceRows();
        faceOf(x, 0, numbers(10, 0, seenAtFirst));
        faceOf(x, 1, numbers(10));
        faceOf(x, 0, numbers(10, 0, 19 - seenAtFirst));
        text(x, 0, 0, "pull 100; limit 9999; nobody 1; far (1 - kin) * (9900 + parts);");
        x.witness(0, 0, 0, 0, 0, 0);
        row(x, 0, 0, 1);
        row(x, 1, 2);
        row(x, 2, 0);
        return x;
    }

    // "(either way, above 0; ..)"
    private static void spoiltAboveZero() {
        for (int seenAtFirst = 9; seenAtFirst <= 10; seenAtFirst++) {
            FaceRows x = hairsbreadth(seenAtFirst);
            x.show(0, 1, 0, -1, 0, 0);
            x.show(0, 0, 1, -1, 0, 1);
            due("with all", x.replayed(1, -1), seenAtFirst == 9 ? 99 : 98);
            due("without 0", x.replayed(1, 0), seenAtFirst == 9 ? 98 : 99);
            due("1 either way", x.spoilt(1), 0);
            FaceRows y = hairsbreadth(seenAtFirst);
            y.show(0, 2, 0, -1, 0, 0);
            y.show(0, 0, 1, -1, 0, 1);
            due("the same without 0", y.replayed(1, 0), y.replayed(1, -1));
            due("0 is not above 0", y.spoilt(1), -1);
            due("none ahead", y.spoilt(0), -1);
        }
    }

    // "the j ahead of it for which these differ most from those with all (.. the least j of several)"
    private static void spoiltMost() {
        // Showings to 14 (by half: 12), then to 11 (by half of -1: 12): none but the first counts
        FaceRows x = tens("pull 100; limit 900;");
        flat(x, 0, 14);
        flat(x, 0, 11);
        row(x, 0, 0);
        row(x, 1, 1);
        row(x, 2, 2);
        x.show(0, 0, 0, -1, 0, -1);
        x.show(0, 1, 0, -1, 0, -1);
        x.show(0, 2, 0, -1, 0, -1);
        x.show(0, 0, 0, -1, 0, 0);
        due("the second of three", x.spoilt(3), 1);
        // Two that do the same, each of which counts as much
        FaceRows y = new FaceRows();
        flat(y, 0, 0);
        flat(y, 0, 31);
        text(y, 0, 0, "pull 20; limit 9999;");
        y.witness(0, 0, 0, 0, 0, 0);
        y.witness(0, 0, 0, 0, 0, 0);
        row(y, 0, 1);
        y.show(1, 0, 0, -1, 0, -1);
        for (int i = 1; i < 5; i++) {
            y.show(0, 0, 0, -1, 0, -1);
        }
        due("as much without 1 as without 2", y.replayed(4, 1), y.replayed(4, 2));
        due("and not as with all", y.replayed(4, 1) == y.replayed(4, -1), false);
        due("the least of several, of the same one", y.spoilt(4), 1);
        due("one ahead", y.spoilt(2), 1);
        due("none ahead of the same one", y.spoilt(1), -1);
        due("none ahead of another one", y.spoilt(0), -1);
        // What was drawn counts too, but nothing is replayed for one that was drawn itself
        FaceRows z = tens("pull 100; limit 900;");
        flat(z, 0, 14);
        row(z, 0, 1);
        z.show(0, 0, 2, -1, 0, -1);
        z.show(0, 0, 0, -1, 0, 0);
        z.show(0, 0, 2, -1, 0, -1);
        due("spoilt by what was drawn", z.spoilt(1), 0);
        due("drawn itself", z.spoilt(2), -1);
        due("drawn itself, first", z.spoilt(0), -1);
    }

    // "Two WITNESSES are APART, if neither was shown a FACE MADE by the other."
    private static void apart() {
        for (int kind = 0; kind < 3; kind++) {
            FaceRows x = tens("");
            x.witness(0, 0, 0, 0, 0, 0);
            x.witness(0, 0, 0, 0, 0, 0);
            x.put(0, 0);
            int byFirst = x.together(0, 0);
            row(x, 1, -1, 0, byFirst);
            due("made, not shown", x.both(0, 1, 0, 0, 0), 1);
            x.show(0, 1, kind, -1, 0, -1);
            due("shown the own one", x.both(0, 1, 0, 0, 0), 1);
            x.show(1, 0, kind, -1, 0, -1);
            due("shown another one", x.both(0, 1, 0, 0, 0), 1);
            x.show(2, 1, kind, -1, 0, -1);
            due("a third one was shown it", x.both(0, 1, 0, 0, 0), 1);
            due("and is not apart from her who made it", x.both(0, 2, 0, 0, 0), 0);
            due("nor the other way round", x.both(2, 0, 0, 0, 0), 0);
            due("but from the other one", x.both(2, 1, 0, 0, 0), 1);
            x.show(1, 1, kind, -1, 0, -1);
            due("shown, kind " + kind, x.both(0, 1, 0, 0, 0), 0);
            due("shown, the other way round", x.both(1, 0, 0, 0, 0), 0);
            due("both were shown one by a third", x.both(1, 2, 0, 0, 0), 1);
        }
        // A face that looks alike is not one that was made
        FaceRows x = tens("");
        x.witness(0, 0, 0, 0, 0, 0);
        x.put(0, 0);
        x.together(0, 0);
        flat(x, 0, 10);
        row(x, 0, 2);
        x.show(1, 0, 0, -1, 0, 0);
        due("alike", x.both(0, 1, 0, 0, 0), 1);
    }

    // "if they are APART both ODDS multiplied, by 1000000; else the lesser one"
    private static void multiplied() {
        FaceRows x = tens("far 0; limit 10; nobody 10;");
        flat(x, 0, 11);
        text(x, 0, 1, "far 0; limit 20; nobody 10;");
        text(x, 0, 2, "far 0; limit 0;");
        text(x, 0, 3, "far 0; limit 9999; nobody 1;");
        x.witness(1, 0, 0, 0, 0, 0);
        x.witness(2, 0, 0, 0, 0, 0);
        x.witness(3, 0, 0, 0, 0, 0);
        row(x, 0, 0, 1, -1);
        due("a third of 400000", x.both(0, 1, 0, 0, 1), 133333);
        due("the other way round", x.both(1, 0, 0, 1, 1), 133333);
        due("nothing of a third", x.both(0, 2, 0, 0, 1), 0);
        due("nobody there", x.both(0, 1, 0, 2, 1), -1);
        due("nobody", x.both(0, 1, 0, -1, 1), -1);
        due("none such", x.both(0, 1, 0, 3, 1), -1);
        row(x, 0, 0);
        due("nearly all of a half: 999900 by 500000", x.both(0, 3, 0, 0, 1), 499950);
        row(x, 1, 0);
        due("made", x.together(0, 1), 2);
        row(x, 1, 2);
        x.show(1, 1, 2, -1, 0, -1);
        row(x, 0, 0, 1);
        due("not apart: the lesser one", x.both(0, 1, 0, 0, 1), 333333);
        due("the lesser one, the other way round", x.both(1, 0, 0, 0, 1), 333333);
        due("others are apart", x.both(1, 2, 0, 0, 1), 0);
        due("others are apart, more", x.both(1, 3, 0, 0, 1), (int) (400000L * (9999000000L / 19999) / 1000000));
    }
}
