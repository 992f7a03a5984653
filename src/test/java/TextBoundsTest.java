/** THE TEXT at its boundaries: bytes, tokens, numbers, squares, men, lines, and what is behind them. */
public final class TextBoundsTest {
    private static final int NONE = -1, UNKNOWN = -2, OUTSIDE = -3, NOT = -4, FULL = -5;
    private static final int LEAST = Integer.MIN_VALUE, MOST = Integer.MAX_VALUE;
    private static final int BLANK = 32, LINE_END = 59;
    private static final String[] KINDS = {"knight", "king", "rook", "bishop"};
    private static final String FOUR = "king 0 0 0;king 0 1 1;king 0 2 2;king 0 3 3";

    private final Check check = new Check();

    public static void main(String[] args) {
        TextBoundsTest test = new TextBoundsTest();
        test.bytes();
        test.tokens();
        test.numbers();
        test.squares();
        test.men();
        test.lines();
        test.check.end();
    }

    private void bytes() {
        bytesOfACall();
        bytesOfTheText();
        fullTextIsRead();
        bytesByTheirPlace();
        erased();
    }

    private void tokens() {
        anyByteBehindAWord();
        anyByteAheadOfAWord();
        anyByteBetweenWords();
        anyByteBehindANumber();
        anyByteBetweenWordAndNumber();
        wordsAreWhole();
        blanksBetween();
    }

    private void numbers() {
        columnsAndRows();
        colours();
        digits();
    }

    private void squares() {
        squaresOfEachBoard();
        squaresBehindTheLinesAhead();
        holeWhereNothingIs();
        manWhereNobodyIs();
        goalOfNobodyElse();
        boardFullOfHoles();
        boardFullOfMen();
    }

    private void men() {
        fifthMan();
        fifthManBehindOtherTexts();
        fifthManAheadOfOtherFaults();
    }

    private void lines() {
        twelveLines();
        thirteenthLine();
        endTooSoon();
        firstFault();
        boardWithAFault();
        boardLineIsAsAtFirst();
        bareLine();
        behindTheLines();
    }

    private void due(String call, int got, int want) {
        check.due(call, got, want);
    }

    private void fault(String text, int place) {
        fault(new WhiteKnights(), text, place);
    }

    /** A text's fault, and that board() does it or refuses it accordingly; it is taken away then. */
    private void fault(WhiteKnights x, String text, int place) {
        Check.write(x, text);
        due("fault() of " + text, x.fault(), place);
        if (place != NONE) due("board() of " + text, x.board(), NOT);
        due("erase() of " + text, x.erase(), text.length());
    }

    // ---- "THE TEXT is a row of bytes, 200 at most"; "n (1 .. 8) bytes more of THE TEXT"

    private void bytesOfACall() {
        for (int n = 1; n <= 8; n++) due("write(-1, " + n + ")", new WhiteKnights().write(-1, n), n);
        WhiteKnights x = new WhiteKnights();
        for (int n : new int[] {0, 9, -1, -8, 10, 33, 257, 65537, LEAST, LEAST + 1, MOST, MOST - 1}) {
            due("write(-1, " + n + ")", x.write(-1, n), OUTSIDE);
            due("count(8)", x.count(8), 0);
        }
        due("fault() of nothing", x.fault(), 0);
    }

    private void bytesOfTheText() {
        for (int n = 1; n <= 8; n++) {
            due(n + " bytes up to 200", withBlanks(200 - n).write(-1, n), 200);
            WhiteKnights x = withBlanks(201 - n);
            due(n + " bytes up to 201", x.write(-1, n), FULL);
            due("count(8)", x.count(8), 201 - n);
            due("no byte of them is there", x.fault(), 201 - n);
            due("no bytes, ahead of FULL", x.write(-1, 0), OUTSIDE);
            due("nine bytes, ahead of FULL", x.write(-1, 9), OUTSIDE);
            due("MIN, ahead of FULL", x.write(-1, LEAST), OUTSIDE);
            due("MAX, ahead of FULL", x.write(-1, MOST), OUTSIDE);
            due("count(8)", x.count(8), 201 - n);
            due("n - 1 bytes are left", x.write(-1, n - 1), n == 1 ? OUTSIDE : 200);
        }
    }

    private static WhiteKnights withBlanks(int length) {
        WhiteKnights x = new WhiteKnights();
        Check.write(x, " ".repeat(length));
        return x;
    }

    private void fullTextIsRead() {
        String blanks = " ".repeat(200);
        fault(blanks, 200);
        fault(blanks.substring(4) + "free", NONE);
        fault("free" + blanks.substring(4), NONE);
        fault("hole" + blanks.substring(4), 200);
        fault("free" + blanks.substring(5) + "x", 199);
        fault("free" + blanks.substring(5) + ";", 200);
        fault("hole" + blanks.substring(5) + "8", NONE);
        fault("hole" + blanks.substring(5) + "9", 199);
        WhiteKnights x = new WhiteKnights();
        due("lines of 200 bytes", Check.tell(x, "hole" + blanks.substring(5) + "8"), 1);
        due("count(3)", x.count(3), Check.bits(8));
        due("count(8)", x.count(8), 0);
        due("eight bytes behind them", x.write(0, 8), 8);
    }

    // "byte i being bytes >> 8 i & 255"
    private void bytesByTheirPlace() {
        for (int n = 1; n <= 7; n++) {
            WhiteKnights x = new WhiteKnights();
            long above = -1L << 8 * n;
            x.write(Check.packed("hole 1;".substring(0, n)) | above, n);
            Check.write(x, "hole 1;".substring(n) + "hole 2");
            due("byte " + n + " is not taken: board()", x.board(), 2);
        }
        WhiteKnights x = new WhiteKnights();
        due("eight bytes", x.write(Check.packed("free;tur"), 8), 8);
        due("two bytes", x.write(Check.packed("ns"), 2), 10);
        due("board()", x.board(), 2);
        due("count(4)", x.count(4), 1);
        due("byte 7 above 127", x.write(Check.packed("bare   ") | 255L << 56, 8), 8);
        due("fault()", x.fault(), 7);
        due("byte 7 below 128", x.write(Long.MAX_VALUE, 8), 16);
        due("fault()", x.fault(), 7);
    }

    // "THE TEXT is empty: how many bytes it had."
    private void erased() {
        WhiteKnights x = new WhiteKnights();
        due("erase() of a new object", x.erase(), 0);
        for (int length : new int[] {1, 199, 200}) {
            Check.write(x, "x".repeat(length));
            due("erase()", x.erase(), length);
            due("erase() again", x.erase(), 0);
            due("count(8)", x.count(8), 0);
            due("fault() of nothing", x.fault(), 0);
            due("board() of nothing", x.board(), NOT);
        }
    }

    // ---- "A TOKEN (a row of small letters, a row of digits, any other byte)"; "small letters a .. z"; "blanks (32)"

    private static boolean isLetter(int value) {
        return value >= 97 && value <= 122;
    }

    private static boolean isDigit(int value) {
        return value >= 48 && value <= 57;
    }

    private void anyByteBehindAWord() {
        for (int b = 0; b < 256; b++) {
            int place = b == BLANK ? NONE : b == LINE_END ? 5 : isLetter(b) ? 0 : 4;
            fault("free" + (char) b, place);
        }
    }

    private void anyByteAheadOfAWord() {
        for (int b = 0; b < 256; b++) fault((char) b + "free", b == BLANK ? NONE : 0);
        for (int b = 0; b < 256; b++) fault("" + (char) b, b == BLANK ? 1 : 0);
    }

    private void anyByteBetweenWords() {
        for (int b = 0; b < 256; b++) {
            int place = b == BLANK ? 5 : b == LINE_END ? NONE : isLetter(b) ? 0 : 4;
            fault("free" + (char) b + "bare", place);
        }
    }

    private void anyByteBehindANumber() {
        for (int b = 0; b < 256; b++) {
            int place = b == BLANK ? NONE : b == LINE_END ? 7 : isDigit(b) ? 5 : 6;
            fault("hole 1" + (char) b, place);
        }
    }

    private void anyByteBetweenWordAndNumber() {
        for (int b = 0; b < 256; b++) {
            int place = b == BLANK || b == '0' ? NONE : isLetter(b) ? 0 : 4;
            fault("hole" + (char) b + "1", place);
        }
    }

    private void wordsAreWhole() {
        String[] lines = {"board 2 2", "hole 0", "knight 0 0 0", "king 0 0 0", "rook 0 0 0", "bishop 0 0 0", "free",
            "turns", "safe", "bare"};
        for (String line : lines) {
            String word = line.split(" ")[0];
            String numbers = line.substring(word.length());
            fault(line, NONE);
            fault(word.substring(1) + numbers, 0);
            fault(word.substring(0, word.length() - 1) + numbers, 0);
            fault(word + "s" + numbers, 0);
            fault(word + "a" + numbers, 0);
            fault("z" + word + numbers, 0);
            fault(word.toUpperCase() + numbers, 0);
            fault(word.substring(0, 1).toUpperCase() + word.substring(1) + numbers, 0);
            fault(word.substring(0, 2) + " " + word.substring(2) + numbers, 0);
            fault(line + " 0", line.length() + 1);
            fault(line + " free", line.length() + 1);
        }
    }

    private void blanksBetween() {
        fault("hole1", NONE);
        fault("king0 1 2", NONE);
        fault("  hole   1  ;  free  ", NONE);
        fault("board 3 3;hole 1 1", 17);
        fault("hole 0 1", 7);
        fault("king 012", 5);
        fault("king 01 2", 9);
    }

    // ---- "numbers of 1 or 2 digits"; "a number out of its bounds, of more digits, also"

    // "w columns (2 .. 4 ..) and h rows (2 .. 4 ..), 12 SQUARES at most"; "W H 12 at most (else a FAULT at H)"
    private void columnsAndRows() {
        for (int w = 0; w <= 101; w++) {
            boolean taken = w >= 2 && w <= 4;
            fault("board " + w + " 2", taken ? NONE : 6);
            fault("board " + w + " x", taken ? 8 : 6);
        }
        for (int w = 2; w <= 4; w++) {
            for (int h = 0; h <= 101; h++) {
                boolean taken = h >= 2 && h <= 4 && w * h <= 12;
                fault("board " + w + " " + h, taken ? NONE : 8);
                if (!taken) continue;
                WhiteKnights x = Check.told("board " + w + " " + h);
                due("columns", x.count(0), w);
                due("rows", x.count(1), h);
                due("the last SQUARE", x.square(w * h - 1, 0), 0);
                due("one more", x.square(w * h, 0), UNKNOWN);
            }
        }
        fault("board 5 5", 6);
        fault("board 4 4;hole 99", 8);
    }

    // "of a COLOUR (0 white, 1 black)"
    private void colours() {
        for (String kind : KINDS) {
            int at = kind.length() + 1;
            for (int c = 0; c <= 101; c++) fault(kind + " " + c + " 0 0", c <= 1 ? NONE : at);
        }
        due("white", Check.told("king 00 4 4").man(0, 1), 0);
        due("black", Check.told("king 01 4 4").man(0, 1), 1);
    }

    private void digits() {
        fault("hole 0", NONE);
        fault("hole 00", NONE);
        fault("hole 000", 5);
        fault("hole 08", NONE);
        fault("hole 008", 5);
        fault("hole 09", 5);
        fault("hole " + "0".repeat(195), 5);
        fault("hole " + "9".repeat(195), 5);
        for (String more : new String[] {"256", "257", "65537", "2147483648", "4294967296", "4294967297",
            "18446744073709551616"}) {
            fault("hole " + more, 5);
            fault("king " + more + " 0 0", 5);
            fault("board 2 " + more, 8);
        }
        fault("board 03 04", NONE);
        fault("board 003 4", 6);
        fault("board 3 004", 8);
        fault("king 01 08 08", NONE);
        fault("king 001 8 8", 5);
        fault("king 1 008 8", 7);
        fault("king 1 8 008", 9);
        fault("hole -0", 5);
        fault("hole +1", 5);
        fault("hole x", 5);
        due("two digits", Check.told("board 04 03;hole 07;hole 11").count(3), Check.bits(7, 11));
    }

    // ---- "SQUARES that there are behind the LINES ahead"

    private void squaresOfEachBoard() {
        for (int w = 2; w <= 4; w++) {
            for (int h = 2; h <= 4 && w * h <= 12; h++) {
                String board = "board " + w + " " + h + ";";
                for (int square = 0; square <= 100; square++) {
                    boolean taken = square < w * h;
                    fault(board + "hole " + square, taken ? NONE : 15);
                    fault(board + "king 0 " + square + " 0", taken ? NONE : 17);
                    fault(board + "king 0 0 " + square, taken ? NONE : 19);
                }
            }
        }
    }

    private void squaresBehindTheLinesAhead() {
        fault("hole 9;board 4 3", 5);
        fault("hole 8;board 2 2;hole 3", NONE);
        fault("hole 8;board 2 2;hole 8", 22);
        fault("board 4 3;hole 11;board 3 3;hole 11", 33);
        WhiteKnights x = Check.told("board 4 3");
        fault(x, "hole 11", NONE);
        fault(x, "hole 12", 5);
        fault(x, "board 2 2;hole 4", 15);
        Check.tell(x, "board 2 2");
        fault(x, "hole 4", 5);
        fault(x, "hole 3", NONE);
    }

    // "hole: none is there, no MAN, no GOAL (else a FAULT at P)"
    private void holeWhereNothingIs() {
        String[] pieces = {"hole 4", "king 0 4 5", "king 0 5 4"};
        for (String piece : pieces) {
            fault(piece + ";hole 4", piece.length() + 6);
            fault(piece + ";hole 3", NONE);
            fault(piece + ";bare;hole 4", piece.equals("hole 4") ? 17 : NONE);
            fault(piece + ";board 3 3;hole 4", NONE);
            WhiteKnights x = Check.told(piece);
            fault(x, "hole 4", 5);
            fault(x, "hole 3", NONE);
            fault(x, "free;hole 4", 10);
        }
        WhiteKnights x = Check.told("king 0 4 8");
        x.hop(0, 1);
        fault(x, "hole 4", 5);
        fault(x, "hole 1", NONE);
        fault(x, "hole 8", 5);
        due("hole 1", Check.tell(x, "hole 1"), 1);
        due("he is as told", x.man(0, 2), 4);
        due("a HOLE where he was", x.square(1, 0), 1);
    }

    // "no HOLE, no MAN at P .. (else a FAULT at it)"
    private void manWhereNobodyIs() {
        for (String kind : KINDS) {
            int atC = kind.length() + 1;
            WhiteKnights x = Check.told("hole 4;king 0 0 1");
            fault(x, kind + " 1 4 2", atC + 2);
            fault(x, kind + " 1 0 2", atC + 2);
            fault(x, kind + " 1 1 2", NONE);
            fault(x, kind + " 1 2 2", NONE);
            fault(x, kind + " 1 9 9", atC + 2);
            fault(x, kind + " 1 4 4", atC + 2);
            fault(x, kind + " 2 4 4", atC);
            fault("hole 4;" + kind + " 1 4 2", 7 + atC + 2);
            fault("king 0 0 1;" + kind + " 1 0 2", 11 + atC + 2);
            fault("king 0 0 1;bare;" + kind + " 1 0 1", NONE);
        }
    }

    // "no HOLE, no other GOAL at G (else a FAULT at it)"; "with another one, or that, as GOAL"
    private void goalOfNobodyElse() {
        for (String kind : KINDS) {
            int atC = kind.length() + 1;
            WhiteKnights x = Check.told("hole 4;king 0 0 1");
            fault(x, kind + " 1 2 4", atC + 4);
            fault(x, kind + " 1 2 1", atC + 4);
            fault(x, kind + " 1 2 0", NONE);
            fault(x, kind + " 1 2 2", NONE);
            fault(x, kind + " 1 2 9", atC + 4);
            fault(x, kind + " 1 1 1", atC + 4);
            fault("hole 4;" + kind + " 1 2 4", 7 + atC + 4);
            fault("king 0 0 1;" + kind + " 1 2 1", 11 + atC + 4);
        }
    }

    private void boardFullOfHoles() {
        WhiteKnights x = new WhiteKnights();
        due("eleven HOLES", Check.tell(x, "board 4 3;hole 0;hole 1;hole 2;hole 3;hole 4;hole 5;hole 6;hole 7;hole 8;"
            + "hole 9;hole 10"), 12);
        due("count(3)", x.count(3), 2047);
        fault(x, "king 0 11 11", NONE);
        fault(x, "king 0 11 10", 10);
        due("the twelfth", Check.tell(x, "hole 11"), 1);
        due("count(3)", x.count(3), 4095);
        for (int square = 0; square < 12; square++) {
            fault(x, "hole " + square, 5);
            fault(x, "king 0 " + square + " 0", 7);
        }
        due("fewest() without MEN", x.fewest(), 0);
        due("added(11)", x.added(11), 0);
        due("left(11)", x.left(11), NOT);
    }

    private void boardFullOfMen() {
        WhiteKnights x = Check.told("board 2 2;king 0 0 3;king 0 1 2;rook 1 2 1;rook 1 3 0");
        due("MEN", x.count(2), 4);
        for (int man = 0; man < 4; man++) due("may(" + man + ")", x.may(man), 0);
        due("fewest()", x.fewest(), NONE);
        due("farthest(0)", x.farthest(0), 0);
        due("farthest(1)", x.farthest(1), 1);
        for (int square = 0; square < 4; square++) {
            due("left(" + square + ")", x.left(square), NOT);
            due("added(" + square + ")", x.added(square), NOT);
        }
    }

    // ---- "MEN are 0, 1 .. as they come, 4 at most"; "a fifth cannot stand there (at its word)"

    private void fifthMan() {
        fault(FOUR, NONE);
        for (String kind : KINDS) {
            fault(FOUR + ";" + kind + " 0 4 4", FOUR.length() + 1);
            fault(FOUR + ";free; " + kind + " 0 4 4", FOUR.length() + 7);
            fault(FOUR + ";bare;" + kind + " 0 4 4", NONE);
            fault(FOUR + ";board 3 3;" + kind + " 0 4 4", NONE);
            String three = FOUR.substring(11);
            fault(three + ";" + kind + " 0 4 4", NONE);
        }
        due("MEN", Check.told(FOUR + ";bare;" + FOUR).count(2), 4);
    }

    private void fifthManBehindOtherTexts() {
        WhiteKnights x = new WhiteKnights();
        for (int man = 0; man < 4; man++) {
            due("one more", Check.tell(x, KINDS[man] + " 1 " + man + " " + man), 1);
            due("MEN", x.count(2), man + 1);
            due("the last one", x.man(man, 0), man);
            due("none behind him", x.man(man + 1, 0), UNKNOWN);
        }
        for (String kind : KINDS) fault(x, kind + " 0 4 4", 0);
        for (String kind : KINDS) fault(x, "bare;" + kind + " 0 4 4", NONE);
        for (String kind : KINDS) fault(x, "board 2 2;" + kind + " 0 0 0", NONE);
        due("MEN", x.count(2), 4);
    }

    private void fifthManAheadOfOtherFaults() {
        for (String rest : new String[] {"", " ", " 2 9 9", " 0 0 0", " x", ";", " 0 4 4;y"}) {
            fault(FOUR + ";rook" + rest, FOUR.length() + 1);
        }
    }

    // ---- "LINES with ; (59) between, 12 at most"

    private static String lines(int n) {
        return "turns;free;".repeat(6).substring(0, n * 11 / 2 + n % 2 - 1);
    }

    private void twelveLines() {
        for (int n = 1; n <= 12; n++) {
            WhiteKnights x = new WhiteKnights();
            fault(x, lines(n), NONE);
            fault(x, lines(n) + ";", n == 12 ? lines(n).length() : lines(n).length() + 1);
            fault(x, lines(n) + ";;", n == 12 ? lines(n).length() : lines(n).length() + 1);
            due("LINES", Check.tell(x, lines(n)), n);
            due("LAW of the last one", x.count(4), n % 2);
        }
    }

    private void thirteenthLine() {
        int end = lines(12).length();
        for (String more : new String[] {";", ";free", ";x", "; ", ";;", ";free;free", ";hole 99"}) {
            fault(lines(12) + more, end);
            fault(lines(12) + "  " + more, end + 2);
        }
        fault(lines(12) + "  ", NONE);
        fault(lines(12) + " x", end + 1);
        fault(lines(11) + ";x;free", lines(11).length() + 1);
        fault(lines(11) + ";hole 9;free", lines(11).length() + 6);
    }

    // "or at the end, if it comes too soon"; "the byte with which the TOKEN begins, or the length"
    private void endTooSoon() {
        String text = "hole 5;king 1 0 8;board 2 4";
        int[] places = {0, 0, 0, 0, 4, 5, NONE, 7, 7, 7, 7, 11, 12, 13, 14, 15, 16, NONE, 18, 18, 18, 18, 18, 23, 24,
            25, 26, NONE};
        for (int length = 0; length <= text.length(); length++) fault(text.substring(0, length), places[length]);
        fault("hole    ", 8);
        fault("free;   ", 8);
        fault("king 0   ", 9);
        fault("board 2;free", 7);
        fault("hole;free", 4);
        fault("king 0 1;free", 8);
    }

    // "A FAULT is at the first TOKEN .. that cannot stand there"
    private void firstFault() {
        fault("x y", 0);
        fault("hole 9;x", 5);
        fault("hole 1;hole 1;hole 9", 12);
        fault("board 5 5;hole 99", 6);
        fault("king 2 9 9", 5);
        fault("king 1 9 9", 7);
        fault("king 1 8 9", 9);
        fault("hole 1;free 1;hole 1", 12);
        fault("Free;x", 0);
    }

    // "NOT: it has a FAULT." and nothing changes
    private void boardWithAFault() {
        String[] texts = {"", " ", "safe;hole 0;x", "bare;hole 4;hole 4", "board 2 2;hole 4", lines(12) + ";free"};
        for (String text : texts) {
            WhiteKnights x = inTheMiddle();
            WhiteKnights y = inTheMiddle();
            Check.write(x, text);
            Check.write(y, text);
            due("board() of " + text, x.board(), NOT);
            due("board() again of " + text, x.board(), NOT);
            due("the text stays", x.count(8), text.length());
            Inquest.same(check, "board() of " + text, x, y);
        }
    }

    /** By TURNS, three HOPS done, two kept, one HOLE, and a ROW. */
    private static WhiteKnights inTheMiddle() {
        WhiteKnights x = Check.told("board 4 3;hole 5;king 0 0 11;rook 1 3 8;turns");
        x.keep(0);
        x.hop(0, 1);
        x.hop(1, 7);
        x.keep(1);
        x.hop(0, 2);
        x.row(1, 4);
        x.row(1, 6);
        return x;
    }

    // "board: .. no HOLES, MEN, all else as at first"
    private void boardLineIsAsAtFirst() {
        WhiteKnights x = inTheMiddle();
        due("board 2 3", Check.tell(x, "board 2 3"), 1);
        int[] counts = {2, 3, 0, 0, 0, 0, 0, 0, 0};
        for (int what = 0; what < counts.length; what++) due("count(" + what + ")", x.count(what), counts[what]);
        due("back(0)", x.back(0), NOT);
        due("back(1)", x.back(1), NOT);
        x = Check.told("safe;hole 3;king 0 0 0;board 3 3");
        due("LAW ahead of it", x.count(4), 0);
        due("HOLE ahead of it", x.count(3), 0);
        due("MAN ahead of it", x.count(2), 0);
        x = Check.told("board 3 3;safe;hole 3;king 0 0 0");
        due("LAW behind it", x.count(4), 2);
        due("HOLE behind it", x.count(3), 8);
        due("MAN behind it", x.count(2), 1);
    }

    // "bare: no MEN"
    private void bareLine() {
        WhiteKnights x = inTheMiddle();
        due("bare", Check.tell(x, "bare"), 1);
        int[] counts = {4, 3, 0, 32, 1, 0, 0, 0, 0};
        for (int what = 0; what < counts.length; what++) due("count(" + what + ")", x.count(what), counts[what]);
        due("no GOAL", x.square(11, 2), NONE);
        due("no MAN", x.square(0, 1), NONE);
        due("bare once more", Check.tell(x, "bare;bare"), 2);
    }

    // "Behind them MEN are as told, no HOPS have been, no ROW is told, nothing is kept."
    private void behindTheLines() {
        for (String text : new String[] {"free", "turns", "safe", "hole 1", "knight 0 6 6"}) {
            WhiteKnights x = inTheMiddle();
            due("board() of " + text, Check.tell(x, text), 1);
            due("man(0, 2)", x.man(0, 2), 0);
            due("man(1, 2)", x.man(1, 2), 3);
            due("HOPS", x.count(5), 0);
            due("THE ROW", x.count(7), 0);
            due("THE TEXT", x.count(8), 0);
            due("judge()", x.judge(), NONE);
            due("back(0)", x.back(0), NOT);
            due("back(1)", x.back(1), NOT);
            due("keep(1)", x.keep(1), 0);
            due("back(0)", x.back(0), NOT);
            due("back(1)", x.back(1), 0);
        }
    }
}
