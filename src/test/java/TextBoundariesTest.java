/**
 * The sentences of the document about texts that name a boundary: heads (section 1), what was said
 * (section 4) and ways (section 5), each from just inside and from just outside.
 */
public final class TextBoundariesTest extends Checks {
    private static final String[] WORDS = {"far", "blur", "fade", "pull", "limit", "nobody", "sure", "part"};
    private static final String[] ASKED = {"parts", "whole", "kin", "secs", "light", "fear", "days", "gap", "first", "told"};
    private static final int HEAD = 0;
    private static final int SAID = 1;
    private static final int WAY = 2;

    public static void main(String[] args) {
        digits();
        letters();
        blanks();
        signs();
        whatCantStand();
        theEnd();
        theFirstByItsPlace();
        theLeastAtOnePlace();
        aLineOfThisWordIsThere();
        aPartByZero();
        theNinthOpen();
        whatWasSaid();
        theThirteenthNo();
        ways();
        emptyTexts();
        noSuchText();
        aTextStaysAsItWas();
        theTapeIsEmptyInEachCase();
        fullTapes();
        faultOfTheLatest();
        finish("TextBoundariesTest");
    }

    // "digits as many as stand together NUMBERS of 1 to 4 digits or none"
    private static void digits() {
        String[] can = {"0", "9", "10", "099", "999", "9999", "0000", "0001"};
        for (String number : can) {
            taken(new FaceRows(), HEAD, "far " + number + ";", 1);
            taken(new FaceRows(), SAID, "no 1 = " + number + ";", 1);
        }
        String[] cant = {"00000", "00001", "10000", "99999", "4294967297", "0".repeat(380)};
        for (String number : cant) {
            fault(new FaceRows(), HEAD, "far " + number + ";", 1, 4);
            fault(new FaceRows(), HEAD, "far 1 / " + number + ";", 1, 8);
            fault(new FaceRows(), SAID, "no 1 = " + number + ";", 1, 7);
            fault(new FaceRows(), SAID, "no " + number + " = 1;", 1, 3);
            fault(new FaceRows(), WAY, "led " + number + ";", 1, 4);
            fault(new FaceRows(), WAY, "drawn " + number + ";", 1, 6);
        }
        // Beside '0' .. '9' are '/' and ':'
        fault(new FaceRows(), HEAD, "far :;", 1, 4);
        fault(new FaceRows(), HEAD, "far 1:;", 1, 5);
        fault(new FaceRows(), HEAD, "far /;", 1, 4);
        // A number breaks off where the digits do, and the next one begins at once
        fault(new FaceRows(), HEAD, "far 1234 5;", 1, 9);
        taken(new FaceRows(), HEAD, "far 1234+5678;", 1);
        fault(new FaceRows(), HEAD, "far 123four;", 1, 7);
    }

    // "letters as many as stand together are KEYWORDS (those told here) or none"
    private static void letters() {
        for (String word : WORDS) {
            taken(new FaceRows(), HEAD, word + "1;", 1);
            fault(new FaceRows(), HEAD, word.substring(1) + " 1;", 1, 0);
            if (!word.equals("part")) {
                fault(new FaceRows(), HEAD, word + "s 1;", 1, 0);
            }
            fault(new FaceRows(), HEAD, word + word + " 1;", 1, 0);
            fault(new FaceRows(), HEAD, "1 + " + word + ";", 1, 0);
            fault(new FaceRows(), HEAD, "far " + word + ";", 1, 4);
        }
        for (String word : ASKED) {
            taken(new FaceRows(), HEAD, "far 1+" + word + ";", 1);
            fault(new FaceRows(), HEAD, word + " 1;", 1, 0);
            fault(new FaceRows(), HEAD, "far " + word + word + ";", 1, 4);
        }
        fault(new FaceRows(), HEAD, "far partss;", 1, 4);
        fault(new FaceRows(), HEAD, "far par;", 1, 4);
        String[] beside = {"a", "z", "A", "Z"};
        for (String letter : beside) {
            fault(new FaceRows(), HEAD, "far" + letter + " 1;", 1, 0);
            fault(new FaceRows(), HEAD, letter + "far 1;", 1, 0);
        }
        String[] none = {"@", "[", "`", "{", "_", "\u00e4", "\u00ff"};
        for (String sign : none) {
            fault(new FaceRows(), HEAD, "far" + sign + "1;", 1, 3);
        }
        fault(new FaceRows(), HEAD, "Far 1;", 1, 0);
        fault(new FaceRows(), HEAD, "FAR 1;", 1, 0);
        fault(new FaceRows(), SAID, "No 1 = 1;", 1, 0);
        fault(new FaceRows(), SAID, "nono 1 = 1;", 1, 0);
        fault(new FaceRows(), SAID, "n 1 = 1;", 1, 0);
        fault(new FaceRows(), WAY, "Each;", 1, 0);
        fault(new FaceRows(), WAY, "eachpraise;", 1, 0);
        taken(new FaceRows(), SAID, "no1=1;", 1);
        taken(new FaceRows(), WAY, "led1;", 1);
    }

    // "Blanks (32, 10) between."
    private static void blanks() {
        taken(new FaceRows(), HEAD, " \n far \n\n 1 \n + \n 1 \n ; \n ", 1);
        taken(new FaceRows(), HEAD, "\nfar\n1\n;\n", 1);
        taken(new FaceRows(), HEAD, "far1;blur2;", 2);
        int[] none = {0, 9, 11, 12, 13, 31, 33, 127, 128, 160, 255};
        for (int sign : none) {
            fault(new FaceRows(), HEAD, "far" + (char) sign + "1;", 1, 3);
            fault(new FaceRows(), HEAD, "far 1;" + (char) sign, 1, 6);
            fault(new FaceRows(), SAID, (char) sign + "no 1=1;", 1, 0);
            fault(new FaceRows(), WAY, "each" + (char) sign + ";", 1, 4);
        }
        // They stand between tokens, not in one
        fault(new FaceRows(), HEAD, "fa r 1;", 1, 0);
        fault(new FaceRows(), HEAD, "far 1 2;", 1, 6);
        fault(new FaceRows(), HEAD, "far pa rts;", 1, 4);
    }

    // "; + - * / ( )" and "< = >" of what was said
    private static void signs() {
        taken(new FaceRows(), HEAD, "far(1+2-3*4/5);", 1);
        String[] none = {"<", "=", ">", ",", ".", ":", "!", "%", "[", "]", "&", "#", "'", "\""};
        for (String sign : none) {
            fault(new FaceRows(), HEAD, "far 1 " + sign + " 2;", 1, 6);
        }
        String[] of = {"<", "=", ">"};
        for (String sign : of) {
            taken(new FaceRows(), SAID, "no 1 " + sign + " 2;", 1);
        }
        String[] not = {"+", "-", "*", "/", "(", ")", ";", ",", "?", "!"};
        for (String sign : not) {
            fault(new FaceRows(), SAID, "no 1 " + sign + " 2;", 1, 5);
        }
        fault(new FaceRows(), SAID, "no 1 <= 2;", 1, 6);
        fault(new FaceRows(), SAID, "no 1 2;", 1, 5);
        fault(new FaceRows(), WAY, "each, praise;", 1, 4);
    }

    // "1 what can't stand there"
    private static void whatCantStand() {
        fault(new FaceRows(), HEAD, ";", 1, 0);
        fault(new FaceRows(), HEAD, "far;", 1, 3);
        fault(new FaceRows(), HEAD, "far ();", 1, 5);
        fault(new FaceRows(), HEAD, "far (1;", 1, 6);
        fault(new FaceRows(), HEAD, "far 1);", 1, 5);
        fault(new FaceRows(), HEAD, "far (1));", 1, 7);
        fault(new FaceRows(), HEAD, "far 1 +;", 1, 7);
        fault(new FaceRows(), HEAD, "far 1 *;", 1, 7);
        fault(new FaceRows(), HEAD, "far 1 /;", 1, 7);
        fault(new FaceRows(), HEAD, "far + 1;", 1, 4);
        fault(new FaceRows(), HEAD, "far -1;", 1, 4);
        fault(new FaceRows(), HEAD, "far 1 - -1;", 1, 8);
        fault(new FaceRows(), HEAD, "far 1 * -1;", 1, 8);
        fault(new FaceRows(), HEAD, "far 1 / kin;", 1, 8);
        fault(new FaceRows(), HEAD, "far 1 / (2);", 1, 8);
        fault(new FaceRows(), HEAD, "far 1 (2);", 1, 6);
        fault(new FaceRows(), HEAD, "far (1) 2;", 1, 8);
        fault(new FaceRows(), HEAD, "far 2 parts;", 1, 6);
        fault(new FaceRows(), HEAD, "far 1;;", 1, 6);
        fault(new FaceRows(), HEAD, "far 1 blur 2;", 1, 6);
        fault(new FaceRows(), HEAD, "each;", 1, 0);
        fault(new FaceRows(), HEAD, "no 1 = 1;", 1, 0);
        String[] others = {"no", "each", "led", "drawn", "praise"};
        for (String word : others) {
            fault(new FaceRows(), HEAD, word + " 1;", 1, 0);
            fault(new FaceRows(), HEAD, "far " + word + ";", 1, 4);
            fault(new FaceRows(), HEAD, "far 1 / " + word + ";", 1, 8);
            fault(new FaceRows(), SAID, "no " + word + " = 1;", 1, 3);
            fault(new FaceRows(), SAID, "no 1 = " + word + ";", 1, 7);
            fault(new FaceRows(), WAY, "led " + word + ";", 1, 4);
            fault(new FaceRows(), WAY, "drawn " + word + ";", 1, 6);
        }
        String[] begins = {"1", "0", "(", ")", "+", "*", "/", "=", "parts", "told"};
        for (String begin : begins) {
            fault(new FaceRows(), HEAD, begin + ";", 1, 0);
            fault(new FaceRows(), SAID, begin + ";", 1, 0);
            fault(new FaceRows(), WAY, begin + ";", 1, 0);
        }
        taken(new FaceRows(), HEAD, "far 1 - (0 - 1);", 1);
        taken(new FaceRows(), HEAD, "far 1 * 2 / 3 * 4 / 5;", 1);
        taken(new FaceRows(), HEAD, "far (1) / 3;", 1);
        fault(new FaceRows(), SAID, "far 1;", 1, 0);
        fault(new FaceRows(), SAID, "no = 1;", 1, 3);
        fault(new FaceRows(), SAID, "no kin = 1;", 1, 3);
        fault(new FaceRows(), SAID, "no 1 = ;", 1, 7);
        fault(new FaceRows(), SAID, "no 1 = kin;", 1, 7);
        fault(new FaceRows(), SAID, "no 1 = -1;", 1, 7);
        fault(new FaceRows(), SAID, "no 1 = 1 no 2 = 2;", 1, 9);
        fault(new FaceRows(), SAID, "no 1 = 1;;", 1, 9);
        fault(new FaceRows(), WAY, "far 1;", 1, 0);
        fault(new FaceRows(), WAY, "no 1 = 1;", 1, 0);
        fault(new FaceRows(), WAY, ";", 1, 0);
        fault(new FaceRows(), WAY, "each 1;", 1, 5);
        fault(new FaceRows(), WAY, "praise 1;", 1, 7);
        fault(new FaceRows(), WAY, "led;", 1, 3);
        fault(new FaceRows(), WAY, "led kin;", 1, 4);
        fault(new FaceRows(), WAY, "led 1 2;", 1, 6);
        fault(new FaceRows(), WAY, "drawn;", 1, 5);
        fault(new FaceRows(), WAY, "each praise;", 1, 5);
    }

    // "(the end: the text's length)"
    private static void theEnd() {
        String[] heads = {"far", "far ", "far 1", "far 1\n", "far 1 +", "far 1 /", "far (", "far (1", "far (1)", "far 1; blur",
            "far 1; blur 2", "far 1" + " ".repeat(395)};
        for (String head : heads) {
            fault(new FaceRows(), HEAD, head, 1, head.length());
            taken(new FaceRows(), HEAD, "far 1;", 1);
        }
        String[] said = {"no", "no ", "no 1", "no 1 <", "no 1 < 2", "no 1 < 2; no"};
        for (String text : said) {
            fault(new FaceRows(), SAID, text, 1, text.length());
        }
        String[] ways = {"each", "led", "led 1", "drawn", "drawn 1  ", "praise", "each;praise"};
        for (String text : ways) {
            fault(new FaceRows(), WAY, text, 1, text.length());
        }
        // The bytes behind the end are no part of the text
        FaceRows x = new FaceRows();
        tape(x, "far 1; blur 2;");
        x.end(6);
        due("a text that ends behind ;", x.text(0, 0), 1);
        tape(x, "far 1; blur 2;");
        x.end(5);
        due("a text that ends ahead of ;", x.text(0, 0), -1);
        due("the end is what can't stand", x.fault(1), 5);
        tape(x, "far 12345;");
        x.end(8);
        due("a number that ends with the text", x.text(0, 0), -1);
        due("is a number of four digits", x.fault(1), 8);
    }

    // "FAULTS, the first by its place"
    private static void theFirstByItsPlace() {
        fault(new FaceRows(), HEAD, "far 1; far !;", 2, 7);
        fault(new FaceRows(), HEAD, "far !; far 1;", 1, 4);
        fault(new FaceRows(), HEAD, "far 1 / 0 !; far 1;", 2, 8);
        fault(new FaceRows(), HEAD, "far 1 ! / 0;", 1, 6);
        fault(new FaceRows(), HEAD, "far ((((((((( / 0;", 3, 12);
        fault(new FaceRows(), HEAD, "far 1 / 0 + (((((((((1;", 2, 8);
        fault(new FaceRows(), HEAD, "far 1;blur 2;blur 3;far 4;", 2, 13);
        fault(new FaceRows(), SAID, "no 16 = 99999;", 2, 3);
        fault(new FaceRows(), SAID, "no 15 = 99999;", 1, 8);
        fault(new FaceRows(), SAID, "no 1 = 1; no 16 = 1; no 17 = 1;", 2, 13);
        fault(new FaceRows(), WAY, "led 100; drawn 6;", 2, 4);
        fault(new FaceRows(), WAY, "led 99; drawn 6; led 100;", 2, 14);
        fault(new FaceRows(), WAY, "led 1; led 100;", 2, 7);
    }

    // "at one place the least"
    private static void theLeastAtOnePlace() {
        // A ninth ( where none can stand at all
        fault(new FaceRows(), HEAD, "far ((((((((1 (", 1, 14);
        fault(new FaceRows(), HEAD, "far ((((((((1) (", 1, 15);
        // A word that is there where no line begins
        fault(new FaceRows(), HEAD, "far 1 far 2;", 1, 6);
        fault(new FaceRows(), HEAD, "far far;", 1, 4);
        // A 0 that isn't a number, and one that can't stand there
        fault(new FaceRows(), HEAD, "far 1 / 00000;", 1, 8);
        fault(new FaceRows(), HEAD, "far 1 0;", 1, 6);
        fault(new FaceRows(), SAID, "no 99999 = 1;", 1, 3);
        fault(new FaceRows(), SAID, "no 1 = 1 no 16 = 1;", 1, 9);
        fault(new FaceRows(), SAID, "no 1=1;".repeat(12).replaceAll(";$", "no 1=1;"), 1, 83);
        fault(new FaceRows(), WAY, "each each;", 1, 5);
        fault(new FaceRows(), WAY, "led 10000;", 1, 4);
    }

    // "2 (at its KEYWORD) a LINE of this word is there"
    private static void aLineOfThisWordIsThere() {
        StringBuilder all = new StringBuilder();
        for (int i = 0; i < WORDS.length; i++) {
            String line = WORDS[i] + " 0;";
            taken(new FaceRows(), HEAD, line, 1);
            fault(new FaceRows(), HEAD, line + " " + line, 2, line.length() + 1);
            all.append(line);
            taken(new FaceRows(), HEAD, all.toString(), i + 1);
        }
        for (String word : WORDS) {
            fault(new FaceRows(), HEAD, all + word + " 1;", 2, all.length());
        }
        // A word is not there for having been in the text that was there before
        FaceRows x = new FaceRows();
        taken(x, HEAD, "far 1;", 1);
        taken(x, HEAD, "far 2;", 1);
        fault(x, HEAD, "blur 1; far 1; blur 1;", 2, 15);
        taken(x, HEAD, "blur 1; far 1;", 2);
    }

    // "(at the NUMBER) a part by 0"
    private static void aPartByZero() {
        String[] zeros = {"0", "00", "000", "0000"};
        for (String zero : zeros) {
            fault(new FaceRows(), HEAD, "far 1 / " + zero + ";", 2, 8);
            fault(new FaceRows(), HEAD, "far 1/\n" + zero + ";", 2, 7);
            fault(new FaceRows(), HEAD, "far (2 * (1 / " + zero + "));", 2, 14);
        }
        taken(new FaceRows(), HEAD, "far 1 / 1;", 1);
        taken(new FaceRows(), HEAD, "far 1 / 0001;", 1);
        taken(new FaceRows(), HEAD, "far 0 / 1;", 1);
        taken(new FaceRows(), HEAD, "far 1 * 0;", 1);
        fault(new FaceRows(), HEAD, "far 1 / 1 / 0;", 2, 12);
    }

    // "3 (at it) the 9th ( that is open"
    private static void theNinthOpen() {
        taken(new FaceRows(), HEAD, "far ((((((((1))))))));", 1);
        fault(new FaceRows(), HEAD, "far (((((((((1)))))))));", 3, 12);
        fault(new FaceRows(), HEAD, "far ((((((((\n(1)))))))));", 3, 13);
        // One that has been closed isn't open
        taken(new FaceRows(), HEAD, "far ((((((((1))))))))+((((((((1))))))));", 1);
        taken(new FaceRows(), HEAD, "far (((((((" + "(1)+".repeat(20) + "(1))))))));", 1);
        taken(new FaceRows(), HEAD, "far ((((((((1)+(1)))))*((((1)))))));", 1);
        fault(new FaceRows(), HEAD, "far ((((((((1)+((1", 3, 16);
        fault(new FaceRows(), HEAD, "far ((((((((1)+(1)))))*((((((1", 3, 28);
        fault(new FaceRows(), HEAD, "far 1;blur (((((((((", 3, 19);
        taken(new FaceRows(), HEAD, "far ((((((((1))))))));blur ((((((((1))))))));", 2);
    }

    // "{no N (< | = | >) N ;} of NUMBERS: N 0 .. 15 first, else FAULT 2 at it"
    private static void whatWasSaid() {
        taken(new FaceRows(), SAID, "no 0 = 1;", 1);
        taken(new FaceRows(), SAID, "no 15 = 1;", 1);
        taken(new FaceRows(), SAID, "no 0015 = 1;", 1);
        fault(new FaceRows(), SAID, "no 16 = 1;", 2, 3);
        fault(new FaceRows(), SAID, "no 0016 = 1;", 2, 3);
        fault(new FaceRows(), SAID, "no 9999 = 1;", 2, 3);
        fault(new FaceRows(), SAID, "no \n16", 2, 4);
        taken(new FaceRows(), SAID, "no 1 = 16;", 1);
        taken(new FaceRows(), SAID, "no 1 = 9999;", 1);
        // Which of the numbers it is
        FaceRows x = new FaceRows();
        faceOf(x, 0, numbers(7, 0, 1, 15, 30));
        text(x, 1, 0, "no 0 = 1;");
        due("number 0", x.score(0), 1);
        text(x, 1, 0, "no 15 = 30;");
        due("number 15", x.score(0), 1);
        text(x, 1, 0, "no 14 = 30; no 1 = 1;");
        due("the numbers beside", x.score(0), 0);
    }

    // "the 13th no is FAULT 3"
    private static void theThirteenthNo() {
        String line = "no 1=1;";
        for (int i = 0; i <= 12; i++) {
            FaceRows x = new FaceRows();
            taken(x, SAID, line.repeat(i), i);
            due("lines", x.look(5), i);
        }
        fault(new FaceRows(), SAID, line.repeat(13), 3, 84);
        fault(new FaceRows(), SAID, line.repeat(14), 3, 84);
        fault(new FaceRows(), SAID, line.repeat(12) + " no", 3, 85);
        fault(new FaceRows(), SAID, line.repeat(12) + "no 16", 3, 84);
        fault(new FaceRows(), SAID, line.repeat(12) + "1", 1, 84);
        fault(new FaceRows(), SAID, line.repeat(12) + ";", 1, 84);
        taken(new FaceRows(), SAID, line.repeat(12) + " \n", 12);
    }

    // "led N (99 at most, else FAULT 2 at it); drawn N (0 .. 5, else FAULT 2 at it); each at most once"
    private static void ways() {
        String[] lines = {"each;", "led 0;", "drawn 0;", "praise;"};
        StringBuilder all = new StringBuilder();
        for (int i = 0; i < 4; i++) {
            taken(new FaceRows(), WAY, lines[i], 1);
            fault(new FaceRows(), WAY, lines[i] + " " + lines[i], 2, lines[i].length() + 1);
            all.append(lines[i]);
            taken(new FaceRows(), WAY, all.toString(), i + 1);
        }
        for (String line : lines) {
            fault(new FaceRows(), WAY, all + line, 2, all.length());
        }
        taken(new FaceRows(), WAY, "led 99;", 1);
        fault(new FaceRows(), WAY, "led 100;", 2, 4);
        fault(new FaceRows(), WAY, "led 9999;", 2, 4);
        fault(new FaceRows(), WAY, "led 100", 2, 4);
        taken(new FaceRows(), WAY, "drawn 5;", 1);
        fault(new FaceRows(), WAY, "drawn 6;", 2, 6);
        fault(new FaceRows(), WAY, "drawn 9999;", 2, 6);
        fault(new FaceRows(), WAY, "led 98;led 98;", 2, 7);
        fault(new FaceRows(), WAY, "drawn 5;drawn 5;", 2, 8);
        // A line is not there for having been in a text before, be it good or bad
        FaceRows x = new FaceRows();
        for (int i = 0; i < 4; i++) {
            taken(x, WAY, all.toString(), 4);
            fault(x, WAY, all + "!", 1, all.length());
        }
        flat(x, 0, 10);
        flat(x, 0, 12);
        row(x, 0, 1, 0);
        text(x, 0, 0, "pull 100; sure 20 * told;");
        x.world(0, 0, 0, 0, 0, 0, 0, 0, 0);
        for (int i = 0; i < 4; i++) {
            taken(x, WAY, all.toString(), 4);
            taken(x, WAY, "", 0);
            taken(x, WAY, "", 0);
            due("nothing of the texts before is left: right", x.tried(0, 0, 0), 100000000 / 170);
            due("nothing of the texts before is left: praise", x.way(0, 10), 100000000 / 170);
            fault(x, WAY, "led 99; each; drawn 0; praise; each;", 2, 31);
            taken(x, WAY, "", 0);
            due("nor of a bad one", x.tried(0, 0, 0), 100000000 / 170);
        }
    }

    private static void emptyTexts() {
        for (int k = 0; k < 4; k++) {
            FaceRows x = new FaceRows();
            due("an empty head", x.text(0, k), 0);
            due("an empty way", x.text(2, k), 0);
            due("its fault", x.fault(0), 0);
        }
        FaceRows x = new FaceRows();
        due("nothing said", x.text(1, 0), 0);
        taken(x, SAID, "no 1 = 1;", 1);
        due("nothing said again", text(x, 1, 0, ""), 0);
        due("lines then", x.look(5), 0);
        taken(x, HEAD, " \n", 0);
        taken(x, WAY, "\n ", 0);
        taken(x, SAID, " ", 0);
    }

    // "NONE: no such one (fault() tells 0)"; sort 0, k 0 .. 3; 1, k 0; 2, k 0 .. 3
    private static void noSuchText() {
        int[][] can = {{0, 0}, {0, 3}, {1, 0}, {2, 0}, {2, 3}};
        int[][] cant = {{0, -1}, {0, 4}, {1, -1}, {1, 1}, {1, 3}, {2, -1}, {2, 4}, {-1, 0}, {3, 0},
            {Integer.MIN_VALUE, 0}, {Integer.MAX_VALUE, 0}, {0, Integer.MAX_VALUE}, {2, Integer.MIN_VALUE}};
        for (int[] c : can) {
            FaceRows x = new FaceRows();
            due("text " + c[0] + ", " + c[1], text(x, c[0], c[1], "!"), -1);
            due("its fault", x.fault(0), 1);
            due("its place", x.fault(1), 0);
        }
        for (int[] c : cant) {
            FaceRows x = new FaceRows();
            text(x, 0, 0, "far 1 !");
            due("the fault before", x.fault(0), 1);
            due("no text " + c[0] + ", " + c[1], text(x, c[0], c[1], "!"), -1);
            due("no fault", x.fault(0), 0);
            due("no place", x.fault(1), -1);
            due("the tape is empty", x.end(1), false);
        }
    }

    // "a FAULT (the TEXT stays as it was ..)"
    private static void aTextStaysAsItWas() {
        String[] bad = {"far 7; far 8;", "far 7; !", "far 7", "far 7; blur 1 / 0;", "far (((((((((7;", "blur 3; sure 9; far 8 8;"};
        for (String text : bad) {
            FaceRows x = new FaceRows();
            flat(x, 0, 10);
            flat(x, 0, 11);
            x.put(0, 0);
            x.witness(2, 0, 0, 0, 0, 0);
            due("usual far", x.far(0, 1), 20);
            due("a bad text", text(x, 0, 2, text), -1);
            due("usual far as it was", x.far(0, 1), 20);
            due("usual sure as it was", x.sure(0, 0, 0), 50);
            text(x, 0, 2, "far 5; sure 6;");
            due("a bad text again", text(x, 0, 2, text), -1);
            due("far as it was", x.far(0, 1), 5);
            due("sure as it was", x.sure(0, 0, 0), 6);
            x.witness(2, 0, 0, 0, 0, 0);
            due("no blur", x.memory(1, 0), 10);
            due("another head is another one", text(x, 0, 1, "far 9;"), 1);
            due("far as it was still", x.far(0, 1), 5);
        }
        FaceRows x = new FaceRows();
        flat(x, 0, 10);
        text(x, 1, 0, "no 1 = 10; no 2 = 10;");
        String[] badSaid = {"no 3 = 3; no 16 = 1;", "no 3 = 3; no", "no 3 = 3;".repeat(13), "no 1 < 5; !"};
        for (String text : badSaid) {
            due("bad said", text(x, 1, 0, text), -1);
            due("score as it was", x.score(0), 2);
            due("lines as they were", x.look(5), 2);
        }
        flat(x, 0, 10);
        row(x, 0, 0, 1);
        x.world(0, 0, 0, 0, 0, 0, 0, 0, 1);
        // 50 more for the suspect: 150 of 260; without: 100 of 210
        text(x, 2, 1, "led 50;");
        String[] badWays = {"led 60; led 70;", "each; led 100;", "each;", "led 60;"};
        for (int i = 0; i < 2; i++) {
            due("bad way", text(x, 2, 1, badWays[i]), -1);
            due("way as it was", x.tried(0, 1, 1), 150000000 / 260);
        }
        for (int i = 2; i < 4; i++) {
            due("another way", text(x, 2, 2, badWays[i]), 1);
            due("way as it was, after another one", x.tried(0, 1, 1), 150000000 / 260);
        }
        due("a bad head leaves a way", text(x, 0, 1, "far"), -1);
        due("way as it was, after a head", x.tried(0, 1, 1), 150000000 / 260);
    }

    // "the TAPE is empty in each case"
    private static void theTapeIsEmptyInEachCase() {
        Object[][] cases = {{0, 0, "far 1;"}, {0, 0, "far"}, {0, 4, "far 1;"}, {1, 0, "no 1=1;"}, {1, 0, "no"}, {1, 1, "no"},
            {2, 0, "each;"}, {2, 0, "each"}, {2, 4, "each;"}, {3, 0, "each;"}};
        for (Object[] c : cases) {
            FaceRows x = new FaceRows();
            tape(x, (String) c[2]);
            x.text((Integer) c[0], (Integer) c[1]);
            due("the tape has nothing", x.end(1), false);
            due("the tape has its first 0 bytes", x.end(0), true);
            due("twenty bytes come", x.feed(0x66617220, 0x373B2020, 0x20202020, 0x20202020, 0x20202020), 20);
            due("and they are the text", x.text(0, 0), 1);
        }
    }

    // "NONE, and nothing comes, if there would be more than 400": what 400 bytes can hold
    private static void fullTapes() {
        FaceRows x = new FaceRows();
        flat(x, 0, 0);
        x.witness(0, 0, 0, 0, 0, 0);
        taken(x, HEAD, "far 1" + "+1".repeat(197) + ";", 1);
        due("198", x.far(0, 0), 198);
        taken(x, HEAD, "far 1" + "-1".repeat(197) + ";", 1);
        due("196 below 0", x.far(0, 0), 0);
        taken(x, HEAD, "far " + "((((((((1))))))))+".repeat(21) + "((((1))));" + "pull 9;", 2);
        due("22", x.far(0, 0), 22);
        taken(x, HEAD, "far " + "1+2*(".repeat(8) + "1+2*3" + ")".repeat(8) + ";", 1);
        due("eight open, each with two that wait", x.far(0, 0), 2047);
        taken(x, HEAD, "far 1" + "*3".repeat(20) + "/3".repeat(177) + ";", 1);
        taken(x, HEAD, "far 5;" + " ".repeat(394), 1);
        taken(x, HEAD, " ".repeat(394) + "far 6;", 1);
        due("6", x.far(0, 0), 6);
        fault(x, HEAD, " ".repeat(394) + "far 6!", 1, 399);
        fault(x, HEAD, "far " + "(".repeat(396), 3, 12);
        fault(x, HEAD, "(".repeat(400), 1, 0);
        fault(x, SAID, "no".repeat(200), 1, 0);
        fault(x, SAID, "9".repeat(400), 1, 0);
        fault(x, WAY, ";".repeat(400), 1, 0);
        due("6 still", x.far(0, 0), 6);
    }

    // "Of the latest text(): the FAULT (0 without one), 1 its place (NONE)"
    private static void faultOfTheLatest() {
        FaceRows x = new FaceRows();
        due("a new object has no fault", x.fault(0), 0);
        due("nor a place", x.fault(1), -1);
        fault(x, HEAD, "far !", 1, 4);
        x.feed(0, 0, 0, 0, 0);
        x.end(0);
        due("a tape is no text", x.fault(0), 1);
        taken(x, HEAD, "far 1;", 1);
        fault(x, HEAD, "far 1 / 0;", 2, 8);
        fault(x, WAY, "far 1;", 1, 0);
        due("fault 2", x.fault(2), -1);
        due("fault -1", x.fault(-1), -1);
        due("no such text", x.text(1, 1), -1);
        due("has no fault", x.fault(0), 0);
        due("and no place", x.fault(1), -1);
    }
}
