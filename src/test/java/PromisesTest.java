/** Each promise of the document, with answers worked out by hand from its words. */
public final class PromisesTest extends Checks {
    public static void main(String[] args) {
        aNewObject();
        face();
        number();
        type();
        put();
        clear();
        feed();
        end();
        textOfHead();
        textOfHeadFaults();
        textOfSaid();
        textOfWay();
        fault();
        days();
        witness();
        memory();
        far();
        odds();
        show();
        showing();
        praise();
        sure();
        together();
        known();
        bred();
        score();
        mock();
        fillers();
        world();
        tried();
        way();
        replayed();
        spoilt();
        both();
        look();
        finish("PromisesTest");
    }

    /** What a line of a head comes to for a witness of 20 seconds, light 3, fear 5: read off as the far of a face. */
    private static void farIs(String sum, int want) {
        FaceRows x = new FaceRows();
        flat(x, 0, 10);
        flat(x, 0, 12);
        due("lines of far " + sum, text(x, 0, 1, "far " + sum + ";"), 1);
        x.witness(1, 0, 0, 20, 3, 5);
        due("far " + sum, x.far(0, 1), want);
    }

    // Promise 1
    private static void aNewObject() {
        FaceRows x = new FaceRows();
        due("NONE", FaceRows.NONE, -1);
        for (int what = 0; what <= 6; what++) {
            due("new look " + what, x.look(what), 0);
        }
        due("new number", x.number(0, 0), -1);
        due("new fault", x.fault(0), 0);
        due("new fault's place", x.fault(1), -1);
        due("new tape", x.end(1), false);
        due("new rows", x.put(5, -1), 1);
        due("new objects are apart from one another", new FaceRows().put(5, -1), 1);
    }

    // Promise 2
    private static void face() {
        FaceRows x = new FaceRows();
        due("kin -1", x.face(-1, 0, 0, 0, 0), -1);
        due("kin 6", x.face(6, 0, 0, 0, 0), -1);
        due("first face", x.face(5, 0x01020304, 0xFFE0DF20, 0x1F1E1D1C, 0x80818283), 0);
        int[] want = {1, 2, 3, 4, 31, 0, 31, 0, 31, 30, 29, 28, 0, 1, 2, 3};
        for (int j = 0; j < 16; j++) {
            due("number " + j, x.number(0, j), want[j]);
        }
        for (int i = 1; i < 120; i++) {
            due("face " + i, flat(x, 0, 1), i);
        }
        due("the 121st face", flat(x, 0, 1), -1);
        due("faces", x.look(1), 120);
    }

    // Promise 3
    private static void number() {
        FaceRows x = new FaceRows();
        flat(x, 4, 7);
        due("number 15", x.number(0, 15), 7);
        due("kin", x.number(0, 16), 4);
        due("maker of none", x.number(0, 17), -1);
        due("number 18", x.number(0, 18), -1);
        due("number -1", x.number(0, -1), -1);
        due("number of face 1", x.number(1, 0), -1);
        due("number of face -1", x.number(-1, 0), -1);
        x.witness(0, 0, 0, 0, 0, 0);
        x.witness(0, 0, 0, 0, 0, 0);
        x.put(0, 0);
        x.together(1, 0);
        due("maker", x.number(1, 17), 1);
    }

    // Promise 4
    private static void type() {
        FaceRows x = new FaceRows();
        flat(x, 2, 0);
        flat(x, 0, 30);
        text(x, 0, 0, "fade 50;");
        due("type of kin 6", x.type(6, 0), false);
        due("type of kin -1", x.type(-1, 0), false);
        due("type as face 2", x.type(2, 2), false);
        due("type as face -1", x.type(2, -1), false);
        x.witness(0, 0, 0, 0, 0, 0);
        due("type", x.type(2, 1), true);
        x.witness(0, 0, 0, 0, 0, 0);
        due("type again", x.type(2, 0), true);
        x.days(1);
        due("pulled to 16, the type as it was at the sight", x.memory(0, 0), 8);
        due("pulled to 30, the type as it was at the sight", x.memory(1, 0), 15);
    }

    // Promise 5
    private static void put() {
        FaceRows x = new FaceRows();
        due("no such face", x.put(0, 0), -1);
        flat(x, 0, 1);
        due("face -2", x.put(0, -2), -1);
        due("row 6", x.put(6, 0), -1);
        due("row -1", x.put(-1, 0), -1);
        for (int i = 1; i <= 9; i++) {
            due("place " + i, x.put(5, i % 2 == 0 ? -1 : 0), i);
        }
        due("the tenth", x.put(5, 0), -1);
        due("the tenth nobody", x.put(5, -1), -1);
        due("another row", x.put(4, 0), 1);
    }

    // Promise 6
    private static void clear() {
        FaceRows x = new FaceRows();
        flat(x, 0, 1);
        row(x, 0, 0, 0, 0);
        due("clear", x.clear(0), true);
        due("clear an empty one", x.clear(0), true);
        due("clear 6", x.clear(6), false);
        due("clear -1", x.clear(-1), false);
        due("put after clear", x.put(0, 0), 1);
    }

    // Promise 7
    private static void feed() {
        FaceRows x = new FaceRows();
        for (int i = 1; i <= 20; i++) {
            due("feed " + i, x.feed(0x20202020, 0x20202020, 0x20202020, 0x20202020, 0x20202020), 20 * i);
        }
        due("feed 21", x.feed(0, 0, 0, 0, 0), -1);
        due("nothing came", x.end(401), false);
        due("end 381", x.end(381), true);
        due("feed behind 381", x.feed(0, 0, 0, 0, 0), -1);
        due("end 380", x.end(380), true);
        // "pull 7;" and bytes that are blanks (10, 32)
        due("feed behind 380", x.feed(0x70756C6C, 0x20373B0A, 0x0A202020, 0x20202020, 0x20202020), 400);
        due("the order of the bytes", x.text(0, 0), 1);
        due("the tape is empty then", x.feed(0, 0, 0, 0, 0), 20);
    }

    // Promise 8
    private static void end() {
        FaceRows x = new FaceRows();
        due("end 0 of nothing", x.end(0), true);
        due("end -1", x.end(-1), false);
        x.feed(0, 0, 0, 0, 0);
        due("end 21", x.end(21), false);
        due("end 20", x.end(20), true);
        due("end 5", x.end(5), true);
        due("end 6 then", x.end(6), false);
        due("end -1 changes nothing", x.end(-1), false);
        due("feed behind 5", x.feed(0, 0, 0, 0, 0), 25);
    }

    // Promise 9
    private static void textOfHead() {
        FaceRows x = new FaceRows();
        due("nothing is a text", text(x, 0, 0, ""), 0);
        due("blanks are a text", text(x, 0, 0, " \n "), 0);
        due("all lines", text(x, 0, 3, "far 1;blur 2;fade 3;pull 4;limit 5;nobody 6;sure 7;part 8;"), 8);
        due("head 4", text(x, 0, 4, ""), -1);
        due("head -1", text(x, 0, -1, ""), -1);
        due("sort 3", text(x, 3, 0, ""), -1);
        due("sort -1", text(x, -1, 0, ""), -1);
        farIs("7", 7);
        farIs("0009", 9);
        farIs("9999 + 1", 9999);
        farIs("0 - 1", 0);
        farIs("2 + 3 * 4", 14);
        farIs("(2 + 3) * 4", 20);
        farIs("100 - 30 - 20", 50);
        farIs("100 / 7 * 7", 98);
        farIs("100 / 7 / 2", 7);
        farIs("(0 - 7) / 2 + 10", 7);
        farIs("((((((((5))))))))", 5);
        farIs("((1)+(1))*((2)+(((3))))", 10);
        farIs("9999 * 9999 * 43", 9999);
        farIs("9999 * 9999 * 65 - 0", 0);
        farIs("1+\n1", 2);
        farIs("parts", 24);
        farIs("whole", 8);
        farIs("kin * 7", 7);
        farIs("secs", 20);
        farIs("light", 3);
        farIs("fear", 5);
        farIs("days + 1", 1);
        farIs("gap + 1", 1);
        farIs("first + 1", 1);
        farIs("told + 1", 1);
        FaceRows y = new FaceRows();
        flat(y, 0, 10);
        flat(y, 0, 11);
        y.witness(2, 0, 0, 0, 0, 0);
        due("far without a line", y.far(0, 1), 12 + 2 * 4);
        text(y, 0, 2, "far 5;");
        due("a new text", y.far(0, 1), 5);
        due("a text with a fault", text(y, 0, 2, "far 6; far 7;"), -1);
        due("the text as it was", y.far(0, 1), 5);
        due("the tape is empty after a fault", y.end(1), false);
        tape(y, "far 6;");
        due("no such text", y.text(0, 4), -1);
        due("the tape is empty then too", y.end(1), false);
        text(y, 0, 2, "limit 5;");
        due("a new text is the whole one", y.far(0, 1), 20);
    }

    private static void textOfHeadFaults() {
        FaceRows x = new FaceRows();
        fault(x, 0, "far", 1, 3);
        fault(x, 0, "far ", 1, 4);
        fault(x, 0, "far 1", 1, 5);
        fault(x, 0, "far 1 \n ", 1, 8);
        fault(x, 0, "; far 1;", 1, 0);
        fault(x, 0, " kin 1;", 1, 1);
        fault(x, 0, "far far;", 1, 4);
        fault(x, 0, "far 1 2;", 1, 6);
        fault(x, 0, "far 1;;", 1, 6);
        fault(x, 0, "far1x;", 1, 4);
        fault(x, 0, "farx 1;", 1, 0);
        fault(x, 0, "Far 1;", 1, 0);
        fault(x, 0, "farX 1;", 1, 0);
        fault(x, 0, "far part;", 1, 4);
        fault(x, 0, "far 12345;", 1, 4);
        fault(x, 0, "far 00001;", 1, 4);
        fault(x, 0, "far 1 / 00000;", 1, 8);
        fault(x, 0, "far 1 / kin;", 1, 8);
        fault(x, 0, "far 1 / (2);", 1, 8);
        fault(x, 0, "far -1;", 1, 4);
        fault(x, 0, "far 1 + ;", 1, 8);
        fault(x, 0, "far 1 < 2;", 1, 6);
        fault(x, 0, "far 1\t;", 1, 5);
        fault(x, 0, "far 1\u00e9;", 1, 5);
        fault(x, 0, "far (1;", 1, 6);
        fault(x, 0, "far 1);", 1, 5);
        fault(x, 0, "far ();", 1, 5);
        fault(x, 0, "no 1 < 2;", 1, 0);
        fault(x, 0, "each;", 1, 0);
        fault(x, 0, "far 1; far 2;", 2, 7);
        fault(x, 0, "far 1; blur 2; far ! 1;", 2, 15);
        fault(x, 0, "far 1 / 0;", 2, 8);
        fault(x, 0, "far 1 / 0000;", 2, 8);
        fault(x, 0, "far 1 / 0; !", 2, 8);
        fault(x, 0, "far ! / 0;", 1, 4);
        fault(x, 0, "far (((((((((1)))))))));", 3, 12);
        fault(x, 0, "far ((((((((1 (", 1, 14);
        fault(x, 0, "far (((((((( (", 3, 13);
        due("eight in a row, eight again", text(x, 0, 0, "far ((((((((1))))))))+((((((((1))))))));"), 1);
    }

    private static void textOfSaid() {
        FaceRows x = new FaceRows();
        due("said", text(x, 1, 0, "no 0 < 5;no 15=9999;\nno 0003 > 0 ;"), 3);
        due("said 1", text(x, 1, 1, ""), -1);
        due("said -1", text(x, 1, -1, ""), -1);
        due("as it was", x.look(5), 3);
        fault(x, 1, "no", 1, 2);
        fault(x, 1, "far 1;", 1, 0);
        fault(x, 1, "no 1;", 1, 4);
        fault(x, 1, "no 1 < ;", 1, 7);
        fault(x, 1, "no 1 < kin;", 1, 7);
        fault(x, 1, "no 1 < 2", 1, 8);
        fault(x, 1, "no 1 + 2;", 1, 5);
        fault(x, 1, "no 1 < 12345;", 1, 7);
        fault(x, 1, "no 00001 < 1;", 1, 3);
        fault(x, 1, "no 16 < 1;", 2, 3);
        fault(x, 1, "no 9999 ! 1;", 2, 3);
        String twelve = "no 1 < 2;".repeat(12);
        due("twelve", text(x, 1, 0, twelve), 12);
        fault(x, 1, twelve + "no 1 < 2;", 3, 108);
        fault(x, 1, twelve + "no !", 3, 108);
        fault(x, 1, twelve + "! no", 1, 108);
        due("still twelve", x.look(5), 12);
    }

    private static void textOfWay() {
        FaceRows x = new FaceRows();
        due("way", text(x, 2, 3, "each;led 99;drawn 5;praise;"), 4);
        due("way of nothing", text(x, 2, 0, ""), 0);
        due("way 4", text(x, 2, 4, ""), -1);
        due("way -1", text(x, 2, -1, ""), -1);
        due("led 0", text(x, 2, 0, "led 0;"), 1);
        due("drawn 0", text(x, 2, 0, "drawn 0;"), 1);
        fault(x, 2, "each 1;", 1, 5);
        fault(x, 2, "each", 1, 4);
        fault(x, 2, "led;", 1, 3);
        fault(x, 2, "led kin;", 1, 4);
        fault(x, 2, "led 12345;", 1, 4);
        fault(x, 2, "drawn ;", 1, 6);
        fault(x, 2, "far 1;", 1, 0);
        fault(x, 2, "led 100;", 2, 4);
        fault(x, 2, "led 100", 2, 4);
        fault(x, 2, "drawn 6;", 2, 6);
        fault(x, 2, "each;each;", 2, 5);
        fault(x, 2, "led 0;led 0;", 2, 6);
        fault(x, 2, "drawn 0;drawn 0;", 2, 8);
        fault(x, 2, "praise;praise;", 2, 7);
    }

    // Promise 10
    private static void fault() {
        FaceRows x = new FaceRows();
        text(x, 0, 0, "far !");
        due("fault", x.fault(0), 1);
        due("its place", x.fault(1), 4);
        due("fault 2", x.fault(2), -1);
        due("fault -1", x.fault(-1), -1);
        text(x, 0, 9, "far !");
        due("no such text has no fault", x.fault(0), 0);
        due("and no place", x.fault(1), -1);
        text(x, 0, 0, "far !");
        text(x, 0, 0, "far 1;");
        due("a good text has no fault", x.fault(0), 0);
        due("and no place either", x.fault(1), -1);
    }

    // Promise 11
    private static void days() {
        FaceRows x = new FaceRows();
        flat(x, 0, 0);
        due("days 0", x.days(0), -1);
        due("days 61", x.days(61), -1);
        due("days -1", x.days(-1), -1);
        text(x, 0, 0, "fade 25 + 25 * days;");
        x.witness(0, 0, 0, 0, 0, 0);
        due("a day", x.days(1), 1);
        due("a quarter of 16", x.memory(0, 0), 4);
        due("another day", x.days(1), 2);
        due("half of the other 12, days as now is ahead of it", x.memory(0, 0), 10);
        x.witness(0, 0, 0, 0, 0, 0);
        x.days(2);
        due("three quarters and all of it", x.memory(0, 0), 16);
        due("two days after a sight of day 2", x.memory(1, 0), 10);
        for (int i = 0; i < 16; i++) {
            due("days", x.days(60), 4 + 60 * (i + 1));
        }
        due("beyond 999", x.days(36), -1);
        due("nothing is done", x.look(0), 964);
        due("to 999", x.days(35), 999);
        due("beyond", x.days(1), -1);
    }

    // Promise 12
    private static void witness() {
        FaceRows x = new FaceRows();
        flat(x, 0, 13);
        int[][] cant = {{-1, 0, 0, 0, 0, 0}, {4, 0, 0, 0, 0, 0}, {0, -1, 0, 0, 0, 0}, {0, 6, 0, 0, 0, 0},
            {0, 0, -1, 0, 0, 0}, {0, 0, 1, 0, 0, 0}, {0, 0, 0, -1, 0, 0}, {0, 0, 0, 1000, 0, 0},
            {0, 0, 0, 0, -1, 0}, {0, 0, 0, 0, 10, 0}, {0, 0, 0, 0, 0, -1}, {0, 0, 0, 0, 0, 10}};
        for (int[] c : cant) {
            due("witness that can't be", x.witness(c[0], c[1], c[2], c[3], c[4], c[5]), -1);
        }
        due("no witness came", x.look(2), 0);
        for (int i = 0; i < 20; i++) {
            due("witness", x.witness(3, 5, 0, 999, 9, 9), i);
        }
        due("the 21st", x.witness(0, 0, 0, 0, 0, 0), -1);
        due("witnesses", x.look(2), 20);
    }

    // Promise 13
    private static void memory() {
        FaceRows x = new FaceRows();
        x.face(0, 0x00010203, 0x0405061F, 0x1E1D1C1B, 0x1A191817);
        x.witness(0, 0, 0, 0, 0, 0);
        due("memory 3", x.memory(0, 3), 3);
        due("memory 15", x.memory(0, 15), 23);
        due("memory 16", x.memory(0, 16), -1);
        due("memory -1", x.memory(0, -1), -1);
        due("memory of 1", x.memory(1, 0), -1);
        due("memory of -1", x.memory(-1, 0), -1);
        text(x, 0, 0, "blur 4;");
        due("a sight is blurred once", x.memory(0, 3), 3);
        x.witness(0, 0, 0, 0, 0, 0);
        due("4 by 5 times 5 and 2", x.memory(1, 4), 2);
        due("6 by 5 times 5 and 2", x.memory(1, 6), 7);
        due("31 at most", x.memory(1, 7), 31);
        due("27 by 5 times 5 and 2", x.memory(1, 11), 27);
        text(x, 0, 0, "blur 20;");
        x.witness(0, 0, 0, 0, 0, 0);
        due("blur 15: 6 by 16, and 7", x.memory(2, 6), 7);
        due("blur 15: 27 by 16, and 7", x.memory(2, 11), 23);
        text(x, 0, 0, "blur fear - light;");
        x.witness(0, 0, 0, 0, 7, 3);
        due("blur below 0", x.memory(3, 3), 3);
        x.witness(0, 0, 0, 0, 3, 6);
        due("blur 3: 6 by 4 times 4 and 1", x.memory(4, 6), 5);
    }

    // Promise 14
    private static void far() {
        FaceRows x = new FaceRows();
        x.face(1, 0x0A0A0A0A, 0x0A0A0A0A, 0x0A0A0A0A, 0x0A0A0A0A);
        x.face(2, 0x0B090A0A, 0x0A0A0A0A, 0x0A0A0A0C, 0x0A0A0A07);
        x.witness(0, 2, 0, 0, 0, 0);
        due("far of face 2", x.far(0, 2), -1);
        due("far of face -1", x.far(0, -1), -1);
        due("far for witness 1", x.far(1, 0), -1);
        due("far for witness -1", x.far(-1, 0), -1);
        due("usual far: 4 and twice 3", x.far(0, 1), 10);
        due("far of itself", x.far(0, 0), 0);
        text(x, 0, 0, "far 100 - 10 * kin + parts;");
        due("own kin", x.far(0, 1), 94);
        due("another kin", x.far(0, 0), 100);
        text(x, 0, 0, "far days * 100 + told * 10;");
        x.days(3);
        x.praise(0);
        due("days and told", x.far(0, 1), 310);
    }

    /** Faces 10 (0), 12 (1) and 20 (2); row 0: 0, 1, nobody, 2; witness 0 saw face 0. Fars 0, 40, -, 200. */
    private static FaceRows three() {
        FaceRows x = new FaceRows();
        flat(x, 0, 10);
        flat(x, 0, 12);
        flat(x, 1, 20);
        row(x, 0, 0, 1, -1, 2);
        x.witness(0, 0, 0, 0, 0, 0);
        return x;
    }

    // Promise 15
    private static void odds() {
        FaceRows x = three();
        int[][] cant = {{1, 0, 0, -1, 0, 0}, {-1, 0, 0, -1, 0, 0}, {0, 6, 0, -1, 0, -1}, {0, -1, 0, -1, 0, -1},
            {0, 0, 2, -1, 0, 0}, {0, 0, -1, -1, 0, 0}, {0, 0, 0, 4, 0, 0}, {0, 0, 0, -2, 0, 0}, {0, 0, 0, -1, -1, 0},
            {0, 0, 0, -1, 100, 0}, {0, 0, 0, -1, 0, 4}, {0, 0, 0, -1, 0, -2}, {0, 1, 0, 0, 0, -1}};
        for (int[] c : cant) {
            due("odds that can't be", x.odds(c[0], c[1], c[2], c[3], c[4], c[5]), -1);
        }
        due("100 of 170", x.odds(0, 0, 0, -1, 0, 0), 588235);
        due("60 of 170", x.odds(0, 0, 0, -1, 99, 1), 352941);
        due("nobody there", x.odds(0, 0, 0, -1, 0, 2), 0);
        due("too far", x.odds(0, 0, 0, -1, 0, 3), 0);
        due("nobody: what is left", x.odds(0, 0, 0, -1, 0, -1), 58824);
        due("each: 100 of 110", x.odds(0, 0, 1, -1, 0, 0), 909090);
        due("each: 60 of 70 of what is left", x.odds(0, 0, 1, -1, 0, 1), 77922);
        due("each: nobody", x.odds(0, 0, 1, -1, 0, -1), 12988);
        due("led: 30 of 200", x.odds(0, 0, 0, 3, 30, 3), 150000);
        due("led by 99: 159 of 269", x.odds(0, 0, 0, 1, 99, 1), 591078);
        due("led to nobody does nothing", x.odds(0, 0, 0, 2, 99, 2), 0);
        due("nor to others", x.odds(0, 0, 0, 2, 99, 0), 588235);
        due("each and led: 30 of 40 of 12988", x.odds(0, 0, 1, 3, 30, 3), 9741);
        due("an empty row", x.odds(0, 1, 0, -1, 0, -1), 1000000);
        text(x, 0, 0, "limit 9999; nobody 0;");
        due("limit 9999, nobody 1: 9999 of 29758", x.odds(0, 0, 0, -1, 0, 0), 336010);
        text(x, 0, 0, "limit 40; nobody 9999 + 1;");
        due("a weight of 0", x.odds(0, 0, 0, -1, 0, 1), 0);
        due("40 of 10039", x.odds(0, 0, 0, -1, 0, 0), 3984);
        due("nothing has changed", x.look(3), 0);
    }

    // Promise 16
    private static void show() {
        FaceRows x = three();
        text(x, 0, 0, "pull 51;");
        int[][] cant = {{1, 0, 0, -1, 0, 0}, {-1, 0, 0, -1, 0, 0}, {0, 6, 0, -1, 0, -1}, {0, -1, 0, -1, 0, -1},
            {0, 0, 3, -1, 0, -1}, {0, 0, -1, -1, 0, -1}, {0, 0, 0, 4, 0, 0}, {0, 0, 0, -2, 0, 0}, {0, 0, 0, -1, -1, 0},
            {0, 0, 0, -1, 100, 0}, {0, 0, 0, -1, 0, 4}, {0, 0, 0, -1, 0, -2}, {0, 0, 0, -1, 0, 2}, {0, 0, 2, -1, 0, 0}};
        for (int[] c : cant) {
            due("showing that can't be", x.show(c[0], c[1], c[2], c[3], c[4], c[5]), -1);
        }
        due("no showing came", x.look(3), 0);
        due("nothing is done", x.memory(0, 0), 10);
        due("a showing", x.show(0, 0, 0, -1, 0, 3), 0);
        // 10, to 10; half of 51 is 25: to 12 (0.5: 0); to 20 (2.5: 2) 12; then by 51 to 20 (4.08: 4) 16
        due("pulled by the faces in order and by the pick", x.memory(0, 0), 16);
        due("nobody picked", x.show(0, 0, 1, 2, 99, -1), 1);
        // 16: to 10 (-1.5: -1) 15; to 12 (-0.75: 0) 15; to 20 (1.25: 1) 16
        due("towards 0", x.memory(0, 0), 16);
        text(x, 0, 0, "pull 50;");
        row(x, 0, 2);
        due("drawn", x.show(0, 0, 2, -1, 0, -1), 2);
        due("drawn pulls too: a quarter of 4", x.memory(0, 0), 17);
        due("the row can be empty", x.show(0, 3, 0, -1, 0, -1), 3);
        for (int i = 4; i < 100; i++) {
            due("showing", x.show(0, 3, 0, -1, 0, -1), i);
        }
        due("the 101st", x.show(0, 3, 0, -1, 0, -1), -1);
        // pull is asked once, ahead: told and days alike
        FaceRows y = three();
        text(y, 0, 0, "pull days * 10;");
        y.days(4);
        y.show(0, 0, 0, -1, 0, 3);
        // half of 40 is 20: 10, 10, (2.0) 12, then (3.2) 15
        due("pull by days", y.memory(0, 0), 15);
    }

    // Promise 17
    private static void showing() {
        FaceRows x = three();
        x.witness(0, 0, 0, 0, 0, 0);
        text(x, 0, 0, "pull 50; sure 30 + gap;");
        x.days(5);
        x.show(1, 0, 1, 1, 30, 1);
        due("witness", x.showing(0, 0), 1);
        due("kind", x.showing(0, 1), 1);
        due("day", x.showing(0, 2), 5);
        due("pick", x.showing(0, 3), 1);
        // 90910 is left by the first place; 90 of 100
        due("odds ahead of it", x.showing(0, 4), 81819);
        due("sure ahead of it: the nearest is nearer", x.showing(0, 5), 30);
        due("place 0", x.showing(0, 10), 0);
        due("place 2: nobody", x.showing(0, 12), -1);
        due("place 3", x.showing(0, 13), 2);
        due("place 4: none such", x.showing(0, 14), -1);
        due("place 8: none such", x.showing(0, 18), -1);
        due("what 6", x.showing(0, 6), -1);
        due("what 9", x.showing(0, 9), -1);
        due("what 19", x.showing(0, 19), -1);
        due("what -1", x.showing(0, -1), -1);
        due("showing 1", x.showing(1, 0), -1);
        due("showing -1", x.showing(-1, 0), -1);
        row(x, 0, 2);
        due("the row as it was", x.showing(0, 10), 0);
        x.show(0, 0, 2, 0, 50, -1);
        due("odds of kind 2", x.showing(1, 4), 0);
        due("no pick", x.showing(1, 3), -1);
        due("no sure", x.showing(1, 5), -1);
        row(x, 0, 0);
        x.show(0, 0, 0, -1, 0, -1);
        // memory 12 (a quarter of 10): far 40, 60 of 70
        due("nobody's odds", x.showing(2, 4), 1000000 - 857142);
        for (int i = 0; i < 9; i++) {
            x.put(1, i % 3);
        }
        x.show(0, 1, 0, -1, 0, -1);
        due("place 8", x.showing(3, 18), 2);
    }

    // Promise 18
    private static void praise() {
        FaceRows x = three();
        text(x, 0, 0, "sure told * 10;");
        for (int i = 1; i <= 9; i++) {
            due("told", x.praise(0), i);
        }
        due("nine at most", x.praise(0), 9);
        due("witness 1", x.praise(1), -1);
        due("witness -1", x.praise(-1), -1);
        due("sure by told", x.sure(0, 0, 0), 90);
    }

    // Promise 19
    private static void sure() {
        FaceRows x = three();
        due("usual", x.sure(0, 0, 0), 50);
        due("nobody there", x.sure(0, 0, 2), -1);
        due("place 4", x.sure(0, 0, 4), -1);
        due("place -1", x.sure(0, 0, -1), -1);
        due("row 6", x.sure(0, 6, 0), -1);
        due("row -1", x.sure(0, -1, 0), -1);
        due("witness 1", x.sure(1, 0, 0), -1);
        text(x, 0, 0, "sure gap;");
        due("gap of the nearest", x.sure(0, 0, 0), 40);
        due("gap 0 at least", x.sure(0, 0, 1), 0);
        text(x, 0, 0, "sure first;");
        due("first", x.sure(0, 0, 1), 40);
        due("sure 100 at most", x.sure(0, 0, 3), 100);
        text(x, 0, 0, "sure 0 - first;");
        due("sure 0 at least", x.sure(0, 0, 3), 0);
        text(x, 0, 0, "sure parts;");
        due("parts of the pick", x.sure(0, 0, 1), 24);
        text(x, 0, 0, "sure whole + kin;");
        due("whole and kin of the pick", x.sure(0, 0, 1), 9);
        due("another kin", x.sure(0, 0, 3), 40);
        text(x, 0, 0, "sure gap + 7;");
        row(x, 1, -1, 0);
        due("without others", x.sure(0, 1, 1), 7);
        row(x, 1, 0, 0, 2);
        due("the same face at another place", x.sure(0, 1, 0), 7);
        text(x, 0, 0, "far gap + first + 3; sure gap + first; limit gap + parts + whole + kin;");
        due("far asks no gap or first", x.sure(0, 0, 0), 3);
        due("limit asks no face", x.odds(0, 0, 0, -1, 0, -1), 1000000);
    }

    // Promise 20
    private static void together() {
        FaceRows x = new FaceRows();
        x.face(3, 0x0A0A0A0A, 0x0A0A0A0A, 0x0A0A0A0A, 0x0A0A0A0A);
        x.face(1, 0x0B0B0A0A, 0x00001F1F, 0x0C0A1F1F, 0x10000102);
        x.face(2, 0x0C0A0A0B, 0x1F1F0000, 0x0A0C0000, 0x00101004);
        row(x, 0, -1, 1, 2, -1);
        x.witness(0, 0, 0, 0, 0, 0);
        due("row 1 has no face", x.together(0, 1), -1);
        row(x, 1, -1, -1);
        due("nor has it of nobody", x.together(0, 1), -1);
        due("row 6", x.together(0, 6), -1);
        due("row -1", x.together(0, -1), -1);
        due("witness 1", x.together(1, 0), -1);
        due("witness -1", x.together(-1, 0), -1);
        due("nothing came", x.look(1), 3);
        text(x, 0, 0, "pull 50;");
        due("together", x.together(0, 0), 3);
        // part 0: 2 and 2, the first; 1: 0; 2: 20 and 42; 3: 42 and 20; 4: 2 and 2, the first; 5: 42 and 20
        int[] want = {11, 11, 10, 10, 0, 0, 0, 0, 12, 10, 0, 0};
        for (int j = 0; j < 12; j++) {
            due("part number " + j, x.number(3, j), want[j]);
        }
        // of face 1 four parts, of face 2 two (parts 3 and 5)
        due("whole 12", x.number(3, 12), (4 * 16) / 6);
        due("whole 13", x.number(3, 13), (2 * 16) / 6);
        due("whole 14", x.number(3, 14), (4 * 1 + 2 * 16) / 6);
        due("whole 15", x.number(3, 15), (4 * 2 + 2 * 4) / 6);
        due("the kin of the face seen", x.number(3, 16), 3);
        due("made by", x.number(3, 17), 0);
        due("pulled: half of -10", x.memory(0, 4), 5);
        due("pulled: half of 1", x.memory(0, 0), 10);
        due("no showing", x.look(3), 0);
        FaceRows y = new FaceRows();
        flat(y, 0, 9);
        flat(y, 0, 8);
        flat(y, 0, 4);
        row(y, 0, 1, 2);
        y.witness(0, 0, 0, 0, 0, 0);
        text(y, 0, 0, "part 9;");
        // 9 blurred by 9: 9 by 10 times 10, and 4
        due("by the blurred memory", y.number(y.together(0, 0), 0), 4);
        due("the memory itself is not blurred", y.memory(0, 0), 9);
        for (int i = y.look(1); i < 120; i++) {
            flat(y, 0, 1);
        }
        text(y, 0, 0, "pull 100;");
        due("there are 120 faces", y.together(0, 0), -1);
        due("nothing is done", y.memory(0, 0), 9);
        due("one was made", y.look(6), 1);
    }

    // Promise 21
    private static void known() {
        FaceRows x = new FaceRows();
        int[] values = {10, 12, 8, 10, 5, 31};
        for (int v : values) {
            flat(x, 0, v);
        }
        x.witness(0, 0, 0, 0, 0, 0);
        due("differences", x.known(0, 1, 0), 32);
        due("from 0", x.known(0, 2, 0), 32);
        due("of the one seen", x.known(0, 0, 0), 0);
        due("nearer ones: the twin", x.known(0, 1, 1), 1);
        due("nearer than 5: the twin, 12 and 8", x.known(0, 4, 1), 3);
        due("nearer than 31", x.known(0, 5, 1), 4);
        due("nearer than itself", x.known(0, 0, 1), 0);
        due("nearer than the twin", x.known(0, 3, 1), 0);
        due("what 2", x.known(0, 0, 2), -1);
        due("what -1", x.known(0, 0, -1), -1);
        due("face 6", x.known(0, 6, 0), -1);
        due("face -1", x.known(0, -1, 0), -1);
        due("witness 1", x.known(1, 0, 0), -1);
        text(x, 0, 0, "fade 100;");
        x.days(1);
        due("not by the memory", x.known(0, 1, 0), 32);
    }

    // Promise 22
    private static void bred() {
        FaceRows x = new FaceRows();
        flat(x, 0, 10);
        flat(x, 1, 12);
        flat(x, 0, 20);
        x.witness(0, 0, 0, 0, 0, 0);
        row(x, 0, 2, -1, 1);
        row(x, 1, 1);
        due("no face", x.bred(0, 2, 999), -1);
        due("row 6", x.bred(0, 6, 999), -1);
        due("row -1", x.bred(0, -1, 999), -1);
        due("reach 1000", x.bred(0, 0, 1000), -1);
        due("reach -1", x.bred(0, 0, -1), -1);
        due("witness 1", x.bred(1, 0, 0), -1);
        due("the first pick is round 1", x.bred(0, 0, 32), 1);
        due("reach 999", x.bred(0, 0, 999), 1);
        // One face of 12: in each round the best child has one number 2 less. Child 2 (number 11 in round 1),
        // 4 (number 5), 6 (number 15), 8 (number 9): a number of the whole counts twice, so child 6 is nearest.
        due("30 in round 2", x.bred(0, 1, 30), 2);
        due("31 in round 2 as well", x.bred(0, 1, 31), 2);
        // Round 2: number 0 of child 6 (5 * 6 + 2 = 32), 12 of child 2: the whole again. Round 3: 13 of child 2,
        // round 4: 14 of child 2. Then only parts are left, one in each round; 8 rounds after that at least.
        due("28 in round 3", x.bred(0, 1, 28), 3);
        due("26 in round 4", x.bred(0, 1, 26), 4);
        due("24 in round 5", x.bred(0, 1, 24), 5);
        due("the memory is as it was", x.memory(0, 0), 10);
        due("no face came", x.look(1), 3);
        due("no showing came", x.look(3), 0);
        // Nothing tells the faces apart: the first one is picked again and again.
        text(x, 0, 0, "far 5;");
        due("more than 30 rounds", x.bred(0, 1, 10), -1);
        due("P is the first of equals", x.bred(0, 0, 160), 1);
        due("not the second", x.bred(0, 0, 159), -1);
        halves();
        clampedAndKin();
    }

    private static void halves() {
        // Q is the nearest of the others, not the first of them: 30 (far 40), 14 (far 8 from 10 by one number)
        FaceRows x = new FaceRows();
        x.face(0, 0x0A0A0A0A, 0x0A0A0A0A, 0x0A0A0A0A, 0x0A0A0A0A);
        x.face(0, 0x1E0A0A0A, 0x0A0A0A0A, 0x0A0A0A0A, 0x0A0A0A0A);
        x.face(0, 0x0E0A0A0A, 0x0A0A0A0A, 0x0A0A0A0A, 0x0A0A0A0A);
        x.face(0, 0x080A0A0A, 0x0A0A0A0A, 0x0A0A0A0A, 0x0A0A0A0A);
        x.witness(0, 0, 0, 0, 0, 0);
        // P is face 3 (8: 2 away), Q face 2 (14): (8 + 14) / 2 = 11 in number 0, for i with bit i % 3 of i set:
        // i = 5 (bit 2 set): number (25 + 1) % 16 = 10 is 2 more: 1 + 2 = 3 away. i = 6 (bit 0 not), 7 (bit 1):
        // number 4 is 2 more: 3 away. P itself (i 0): 2 away. i = 1: bit 1 not; number 6; 4 away. So P stays: 2.
        // With face 1 as Q: (8 + 30) / 2 = 19, no better. Rounds go on with P as it is, Q now by one number.
        row(x, 0, 1, 2, 3);
        due("P", x.bred(0, 0, 2), 1);
        due("20 at first", x.bred(0, 0, 20), 1);
        row(x, 1, 1, 2);
        // P 14, Q 30: halves are 22; so P stays 4 away, and only a round with number 0 of an even i makes it 2.
        // 5 i + round = 0 mod 16: i 2: round 6, i 4: round 12, i 6: round 2, i 8: round 8. Picked a round later.
        due("4 at first", x.bred(0, 1, 4), 1);
        due("2 after the second round's children", x.bred(0, 1, 2), 3);
        // Then 2 (children of round 2 are picked in 3); those of round 8 have number 0 again: 12 less 2 is 10.
        due("0 later", x.bred(0, 1, 0) > 3, true);
    }

    private static void clampedAndKin() {
        FaceRows x = new FaceRows();
        flat(x, 4, 31);
        flat(x, 4, 30);
        flat(x, 4, 0);
        flat(x, 4, 1);
        x.witness(0, 4, 0, 0, 0, 0);
        x.witness(0, 4, 2, 0, 0, 0);
        row(x, 0, 1);
        row(x, 1, 3);
        due("16 at first", x.bred(0, 0, 16), 1);
        due("30 and 2 more is 31", x.bred(0, 0, 15), 2);
        due("1 and 2 less is 0", x.bred(1, 1, 15), 2);
        text(x, 0, 0, "far (parts + whole) * kin;");
        due("the children are of the own kin, as P is", x.bred(0, 0, 15), 2);
        text(x, 0, 0, "far (parts + whole) * (1 - kin);");
        due("and so they are all alike", x.bred(0, 0, 15), -1);
    }

    // Promise 23
    private static void score() {
        FaceRows x = new FaceRows();
        x.face(0, 0x05060708, 0, 0, 0x0000001F);
        due("nothing was said", x.score(0), 0);
        text(x, 1, 0, "no 0 < 5; no 0 = 5; no 0 > 5; no 1 < 7; no 2 > 6; no 15 = 31; no 3 = 9; no 4 < 1;");
        due("score", x.score(0), 5);
        due("face 1", x.score(1), -1);
        due("face -1", x.score(-1), -1);
        text(x, 1, 0, "no 0 = 5; no 0 = 5;");
        due("the same twice", x.score(0), 2);
        text(x, 1, 0, "no 0 = 0;".repeat(11) + "no 0 = 5;");
        due("the twelfth", x.score(0), 1);
        text(x, 1, 0, "no 0 > 5;no 16 = 0;");
        due("as it was, after a fault", x.score(0), 1);
    }

    // Promise 24
    private static void mock() {
        FaceRows x = new FaceRows();
        flat(x, 0, 1);
        flat(x, 0, 2);
        flat(x, 0, 3);
        row(x, 0, 0, -1, 1, 2, 2);
        due("nothing was said: one of four", x.mock(0, 0, 0), 250000);
        due("fair", x.mock(0, 0, 1), 0);
        text(x, 1, 0, "no 0 > 1; no 5 > 2;");
        due("one of two", x.mock(0, 3, 0), 500000);
        due("its twin", x.mock(0, 4, 0), 500000);
        due("unfair", x.mock(0, 4, 1), 250000);
        due("not the greatest", x.mock(0, 2, 0), 0);
        due("0 at least", x.mock(0, 2, 1), 0);
        due("nobody there", x.mock(0, 1, 0), -1);
        due("place 5", x.mock(0, 5, 0), -1);
        due("place -1", x.mock(0, -1, 0), -1);
        due("row 6", x.mock(6, 0, 0), -1);
        due("row -1", x.mock(-1, 0, 0), -1);
        due("what 2", x.mock(0, 0, 2), -1);
        due("what -1", x.mock(0, 0, -1), -1);
    }

    // Promise 25
    private static void fillers() {
        FaceRows x = new FaceRows();
        int[] values = {10, 20, 11, 12, 10, 9};
        for (int v : values) {
            flat(x, 0, v);
        }
        row(x, 0, 0, -1, 1, 2, 3, 5);
        due("nearest, the least set of two as near", x.fillers(0, 0, 1), 8);
        due("two", x.fillers(0, 0, 2), 8 + 32);
        due("three", x.fillers(0, 0, 3), 8 + 16 + 32);
        due("four", x.fillers(0, 0, 4), 4 + 8 + 16 + 32);
        due("not so many", x.fillers(0, 0, 5), -1);
        due("another one in the row too", x.fillers(0, 4, 5), 1 + 4 + 8 + 16 + 32);
        due("k 0", x.fillers(0, 0, 0), -1);
        due("k 9", x.fillers(0, 0, 9), -1);
        due("k -1", x.fillers(0, 0, -1), -1);
        due("row 6", x.fillers(6, 0, 1), -1);
        due("row -1", x.fillers(-1, 0, 1), -1);
        due("face 6", x.fillers(0, 6, 1), -1);
        due("face -1", x.fillers(0, -1, 1), -1);
        text(x, 1, 0, "no 0 > 15;");
        due("one that draws more", x.fillers(0, 0, 1), 4);
        due("and the nearest with it", x.fillers(0, 0, 2), 4 + 8);
        due("for the one that draws: the nearest, 12", x.fillers(0, 1, 1), 16);
        text(x, 1, 0, "no 0 = 10; no 1 = 12;");
        due("an equal draws as much", x.fillers(0, 0, 1), 16);
        text(x, 1, 0, "no 0 < 12;");
        due("as many equals as there are", x.fillers(0, 0, 3), 8 + 16 + 32);
        for (int i = 0; i < 9; i++) {
            x.put(1, 1);
        }
        due("eight of nine, the least set", x.fillers(1, 0, 8), 255);
        due("nine of nine", x.fillers(1, 0, 9), -1);
        due("the same face at each place", x.fillers(1, 1, 1), -1);
    }

    // Promise 26
    private static void world() {
        FaceRows x = three();
        int[][] cant = {{-1, 0, 0, 0, 0, 0, 0, 0, 0}, {4, 0, 0, 0, 0, 0, 0, 0, 0}, {0, -1, 0, 0, 0, 0, 0, 0, 0},
            {0, 6, 0, 0, 0, 0, 0, 0, 0}, {0, 0, -1, 0, 0, 0, 0, 0, 0}, {0, 0, 3, 0, 0, 0, 0, 0, 0},
            {0, 0, 0, -1, 0, 0, 0, 0, 0}, {0, 0, 0, 1000, 0, 0, 0, 0, 0}, {0, 0, 0, 0, -1, 0, 0, 0, 0},
            {0, 0, 0, 0, 10, 0, 0, 0, 0}, {0, 0, 0, 0, 0, -1, 0, 0, 0}, {0, 0, 0, 0, 0, 10, 0, 0, 0},
            {0, 0, 0, 0, 0, 0, -1, 0, 0}, {0, 0, 0, 0, 0, 0, 61, 0, 0}, {0, 0, 0, 0, 0, 0, 0, -1, 0},
            {0, 0, 0, 0, 0, 0, 0, 6, 0}, {0, 0, 0, 0, 0, 0, 0, 0, -1}, {0, 0, 0, 0, 0, 0, 0, 0, 4},
            {0, 0, 0, 0, 0, 0, 0, 0, 2}, {0, 0, 0, 0, 0, 0, 0, 1, 0}};
        for (int[] c : cant) {
            due("world that can't be", x.world(c[0], c[1], c[2], c[3], c[4], c[5], c[6], c[7], c[8]), -1);
        }
        due("no world came", x.look(4), 0);
        for (int i = 0; i < 40; i++) {
            due("world", x.world(3, 5, 2, 999, 9, 9, 60, 0, 3), i);
        }
        due("the 41st", x.world(0, 0, 0, 0, 0, 0, 0, 0, 0), -1);
        due("no witness came", x.look(2), 1);
    }

    // Promise 27
    private static void tried() {
        FaceRows x = three();
        x.world(2, 0, 0, 0, 0, 0, 0, 0, 1);
        due("right: 100 of 170", x.tried(0, 0, 0), 588235);
        due("wrong: 60 of 170", x.tried(0, 0, 1), 352941);
        due("filler: too far", x.tried(0, 0, 2), 0);
        due("nobody", x.tried(0, 0, 3), 58824);
        due("what 4", x.tried(0, 0, 4), -1);
        due("what -1", x.tried(0, 0, -1), -1);
        due("world 1", x.tried(1, 0, 0), -1);
        due("world -1", x.tried(-1, 0, 0), -1);
        due("way 4", x.tried(0, 4, 0), -1);
        due("way -1", x.tried(0, -1, 0), -1);
        x.world(2, 0, 0, 0, 0, 0, 0, 0, 0);
        due("the suspect is the doer: not wrong", x.tried(1, 0, 1), 0);
        due("the others are fillers", x.tried(1, 0, 2), 352941);
        row(x, 0, 0, 0, 1);
        x.world(2, 0, 0, 0, 0, 0, 0, 0, 2);
        due("the doer at two places: 200 of 270", x.tried(2, 0, 0), 740740);
        due("the row as it was", x.tried(0, 0, 0), 588235);
        text(x, 2, 1, "each;");
        due("each", x.tried(0, 1, 1), 77922);
        text(x, 2, 2, "led 30;");
        due("led: 90 of 200", x.tried(0, 2, 1), 450000);
        text(x, 0, 2, "fade 50; far parts + days;");
        x.world(2, 0, 0, 0, 0, 0, 1, 0, 2);
        // The type 16 pulls the memory to 13: 10 is 36 away, 12 is 12 away, and a day more each
        due("a day goes by: 63 and 63 of 223", x.tried(3, 0, 0), 2 * (63000000 / 223));
        due("a day goes by: 87 of 223", x.tried(3, 0, 1), 87000000 / 223);
        x.type(0, 0);
        due("the type as it is when it is asked", x.tried(3, 0, 0), 2 * (99000000 / (99 + 99 + 75 + 10)));
        text(x, 0, 2, "pull 50; fade 100;");
        text(x, 2, 3, "drawn 3;");
        x.type(0, 2);
        due("drawn from a row without a face: then all of the type", x.tried(3, 3, 0), 0);
        text(x, 0, 2, "pull 50;");
        due("nothing drawn", x.tried(3, 3, 0), 2 * (100000000 / 270));
        row(x, 3, 1);
        // Pulled by half from 10 to 12: 11, so that each is 20 away
        due("drawn", x.tried(3, 3, 0), 2 * (80000000 / 250));
        due("it does not come as a face", x.look(1), 3);
        due("nor as a witness", x.look(2), 1);
        x.world(1, 0, 2, 7, 8, 9, 0, 0, 0);
        text(x, 0, 1, "limit secs * 100 + light * 10 + fear; far 0; nobody 789; blur told;");
        due("secs, light and fear: 789 of 3156", x.tried(4, 0, 1), 250000);
        due("fillers", x.tried(4, 0, 2), 500000);
    }

    // Promise 28
    private static void way() {
        FaceRows x = three();
        x.world(2, 0, 0, 0, 0, 0, 0, 0, 0);
        x.world(2, 1, 0, 0, 0, 0, 0, 0, 1);
        due("right", x.way(0, 0), 2 * 588235);
        due("wrong", x.way(0, 1), 352941);
        due("alike is not bettered", x.way(0, 2), 0);
        due("bin 2, right", x.way(0, 12), 2 * 588235);
        due("bin 2, not", x.way(0, 22), 2 * 352941);
        due("bin 1, right", x.way(0, 11), 0);
        due("bin 3, not", x.way(0, 23), 0);
        due("own kin", x.way(0, 30), 352941);
        due("another kin", x.way(0, 31), 352941);
        int[] whats = {-1, 3, 9, 15, 19, 25, 29, 32};
        for (int what : whats) {
            due("way what " + what, x.way(0, what), -1);
        }
        due("way 4", x.way(4, 0), -1);
        due("way -1", x.way(-1, 0), -1);
        text(x, 2, 1, "each;");
        due("bettered by each", x.way(0, 2), 1);
        due("each is not", x.way(1, 2), 0);
        text(x, 2, 1, "led 99;");
        // right 199 of 269 and 100 of 269, wrong 159 of 269
        due("led: right", x.way(1, 0), 199000000 / 269 + 100000000 / 269);
        due("led: wrong", x.way(1, 1), 159000000 / 269);
        due("more right and more wrong", x.way(0, 2), 0);
        due("less right", x.way(1, 2), 1);
        text(x, 0, 2, "sure gap + 60 * told;");
        due("gap 40: bin 2", x.way(0, 12), 2 * 588235);
        due("gap 0: bin 0", x.way(0, 20), 2 * 352941);
        text(x, 2, 1, "praise;");
        due("praise: 100 in bin 4", x.way(1, 14), 2 * 588235);
        due("praise: 60 in bin 3", x.way(1, 23), 2 * 352941);
        text(x, 0, 2, "sure told; limit 100 + 50 * told;");
        due("told is 0 in the odds", x.way(1, 0), 2 * 588235);
        for (int i = 2; i < 40; i++) {
            x.world(2, 0, 0, 0, 0, 0, 0, 0, 0);
        }
        due("forty worlds", x.way(0, 0), 40L * 588235);
        FaceRows y = new FaceRows();
        due("no worlds", y.way(0, 0), 0);
        due("no worlds, bettered", y.way(3, 2), 0);
    }

    // Promise 29
    private static void replayed() {
        FaceRows x = three();
        text(x, 0, 0, "pull 50;");
        x.show(0, 0, 0, -1, 0, 3);
        x.witness(0, 0, 0, 0, 0, 0);
        x.show(1, 0, 0, -1, 0, 1);
        row(x, 1, 0);
        x.show(0, 1, 0, 0, 10, 0);
        row(x, 1, 2);
        x.show(0, 1, 2, -1, 0, -1);
        x.show(0, 1, 0, -1, 0, -1);
        due("the first one", x.replayed(0, -1), 0);
        // Ahead of showing 2 with all: 10, 10, 12 (a quarter of 10: 2), 16 (half of 8): far 120
        due("with all: led by 10 of 20", x.replayed(2, -1), 500000);
        due("without 0: 110 of 120", x.replayed(2, 0), 916666);
        due("kind 2", x.replayed(3, -1), -1);
        due("not ahead", x.replayed(2, 2), -1);
        due("later", x.replayed(2, 3), -1);
        due("of another witness", x.replayed(2, 1), -1);
        due("showing 5", x.replayed(5, -1), -1);
        due("showing -1", x.replayed(-1, -1), -1);
        due("j -2", x.replayed(2, -2), -1);
        due("of another witness, the other way", x.replayed(1, 0), -1);
        due("the memory is as it was", x.memory(1, 0), 12);
        due("as it was shown", x.replayed(4, -1), x.showing(4, 4));
        due("kind 2 can be left out", x.replayed(4, 3) != -1, true);
        text(x, 0, 0, "limit 130;");
        due("the head as it is now: no pull, 140 of 150", x.replayed(2, -1), 933333);
        replayedDays();
    }

    private static void replayedDays() {
        FaceRows x = three();
        text(x, 0, 0, "fade 50; pull 50; limit 300;");
        x.days(3);
        x.witness(0, 0, 0, 0, 0, 0);
        row(x, 1, 2);
        x.together(1, 1);
        due("put together: half of 10", x.memory(1, 0), 15);
        x.days(2);
        due("a day: 0.5", x.memory(1, 0), 15);
        x.show(1, 1, 2, -1, 0, -1);
        due("drawn: a quarter of 5", x.memory(1, 0), 16);
        x.show(1, 1, 0, -1, 0, 0);
        // far of 20 from 16: 80; from 15: 100
        due("with all: 220 of 230", x.replayed(1, -1), 956521);
        due("without what was drawn: 200 of 210", x.replayed(1, 0), 952380);
        x.type(1, 2);
        x.type(0, 2);
        due("the type as it was at the sight", x.replayed(1, 0), 952380);
        text(x, 0, 0, "limit 300 + 10 * told + days; blur 4 * told;");
        // 10, by told 0: far 200; days 2: 102 of 112
        due("days of the showing", x.replayed(1, -1), 910714);
        x.days(7);
        due("not of now", x.replayed(1, -1), 910714);
        x.praise(1);
        // blurred by 4: 12: far 160; limit 312: 152 of 162
        due("told as it is now", x.replayed(1, -1), 938271);
    }

    // Promise 30
    private static void spoilt() {
        FaceRows x = three();
        text(x, 0, 0, "pull 50;");
        row(x, 1, 0);
        row(x, 2, 2);
        x.show(0, 1, 0, -1, 0, 0);
        x.show(0, 2, 0, -1, 0, 0);
        x.show(0, 2, 2, -1, 0, -1);
        x.show(0, 1, 0, -1, 0, 0);
        due("the one that changed most", x.spoilt(3), 1);
        due("none ahead", x.spoilt(0), -1);
        due("the one ahead does nothing", x.spoilt(1), -1);
        due("kind 2", x.spoilt(2), -1);
        due("showing 4", x.spoilt(4), -1);
        due("showing -1", x.spoilt(-1), -1);
        FaceRows y = three();
        text(y, 0, 0, "pull 10;");
        y.witness(0, 0, 0, 0, 0, 0);
        row(y, 1, 1);
        y.show(1, 1, 0, -1, 0, 0);
        y.show(0, 1, 0, -1, 0, 0);
        y.show(0, 1, 0, -1, 0, 0);
        y.show(0, 1, 0, -1, 0, 0);
        text(y, 0, 0, "pull 50; limit 900;");
        // 10 to 12: by a quarter 0, by half 1: 11; then 0 and 0. One is enough: left out it makes no difference.
        due("above 0", y.spoilt(3), -1);
        text(y, 0, 0, "pull 100; limit 900; blur 15;");
        due("all alike and pulled to the end", y.spoilt(3), -1);
        due("the only one", y.spoilt(2), 1);
        text(y, 0, 0, "pull 2 * 8; limit 900; far (parts + whole) / 2;");
        // 10 to 12 by 16: 0.32: nothing
        due("too little", y.spoilt(3), -1);
        // Two alike, each of which counts: by 30 from 0 to 12 it is 1 + 3, then 1 + 2 ..
        FaceRows z = new FaceRows();
        flat(z, 0, 0);
        flat(z, 0, 31);
        z.witness(0, 0, 0, 0, 0, 0);
        text(z, 0, 0, "pull 20; limit 9999;");
        row(z, 0, 1);
        for (int i = 0; i < 4; i++) {
            z.show(0, 0, 0, -1, 0, 0);
        }
        due("the least of several", z.spoilt(3), 0);
        due("as with all", z.replayed(3, 1), z.replayed(3, 2));
    }

    // Promise 31
    private static void both() {
        FaceRows x = three();
        x.witness(0, 0, 1, 0, 0, 0);
        x.witness(0, 0, 2, 0, 0, 0);
        due("the same", x.both(0, 0, 0, 0, 0), -1);
        due("witness 3", x.both(0, 3, 0, 0, 0), -1);
        due("witness -1", x.both(-1, 0, 0, 0, 0), -1);
        due("what 2", x.both(0, 1, 0, 0, 2), -1);
        due("what -1", x.both(0, 1, 0, 0, -1), -1);
        due("apart", x.both(0, 1, 0, 0, 0), 1);
        due("apart, nobody there", x.both(0, 1, 0, 2, 0), 1);
        due("nobody there", x.both(0, 1, 0, 2, 1), -1);
        due("place 4", x.both(0, 1, 0, 4, 1), -1);
        due("row 6", x.both(0, 1, 6, 0, 1), -1);
        // 588235 and (60 of 170) 352941
        due("apart: multiplied", x.both(0, 1, 0, 0, 1), (int) (588235L * 352941 / 1000000));
        due("none for it", x.both(0, 2, 0, 0, 1), 0);
        row(x, 1, 0);
        x.together(1, 1);
        due("made, not shown", x.both(0, 1, 0, 0, 0), 1);
        row(x, 1, 3);
        x.show(1, 1, 2, -1, 0, -1);
        due("her own is nothing", x.both(0, 1, 0, 0, 0), 1);
        x.show(2, 1, 2, -1, 0, -1);
        due("others are nothing for these", x.both(0, 1, 0, 0, 0), 1);
        due("shown one of hers", x.both(1, 2, 0, 0, 0), 0);
        due("the other way round", x.both(2, 1, 0, 0, 0), 0);
        x.show(0, 1, 0, -1, 0, -1);
        due("shown together", x.both(0, 1, 0, 0, 0), 0);
        due("the lesser one", x.both(0, 1, 0, 0, 1), 352941);
        due("the lesser one, the other way round", x.both(1, 0, 0, 1, 1), Math.min(x.odds(0, 0, 0, -1, 0, 1), x.odds(1, 0, 0, -1, 0, 1)));
    }

    // Promise 32
    private static void look() {
        FaceRows x = three();
        x.days(2);
        x.together(0, 0);
        x.show(0, 0, 0, -1, 0, -1);
        x.show(0, 0, 0, -1, 0, -1);
        x.world(0, 0, 0, 0, 0, 0, 0, 0, 0);
        text(x, 1, 0, "no 1 < 2; no 1 = 2; no 3 = 3;");
        int[] want = {2, 4, 1, 2, 1, 3, 1};
        for (int what = 0; what < 7; what++) {
            due("look " + what, x.look(what), want[what]);
        }
        due("look 7", x.look(7), -1);
        due("look -1", x.look(-1), -1);
    }
}
