/** The promises one by one, with answers found by hand from the document. */
public final class PromisesTest {
    private static final int NONE = -1, UNKNOWN = -2, OUTSIDE = -3, NOT = -4, FULL = -5;
    private static final int LEAST = Integer.MIN_VALUE, MOST = Integer.MAX_VALUE;
    // On three by three the knight's net is the ring 0 5 6 1 8 3 2 7, with 4 alone.
    private static final int[] KNIGHTS_RING = {0, 5, 6, 1, 8, 3, 2, 7};

    private final Check check = new Check();

    public static void main(String[] args) {
        PromisesTest test = new PromisesTest();
        test.told();
        test.hops();
        test.nets();
        test.foretold();
        test.rows();
        test.check.end();
    }

    private void told() {
        newObject();
        write();
        erase();
        faultOfWords();
        faultOfNumbers();
        faultOfSquares();
        faultOfLines();
        faultGoesOnFromTold();
        board();
        boardBeginsAnew();
        square();
        man();
        as();
    }

    private void hops() {
        mayFree();
        mayByTurns();
        maySafe();
        hop();
        hopFull();
        attacked();
        keepAndBack();
    }

    private void nets() {
        net();
        part();
        shape();
        ring();
        turned();
    }

    private void foretold() {
        fewest();
        way();
        alike();
        many();
        farthest();
        left();
        added();
    }

    private void rows() {
        row();
        judge();
        count();
    }

    private void due(String call, int got, int want) {
        check.due(call, got, want);
    }

    // ---- what is told

    private void newObject() {
        WhiteKnights x = new WhiteKnights();
        int[] counts = {3, 3, 0, 0, 0, 0, 0, 0, 0};
        for (int what = 0; what < counts.length; what++) due("1: count(" + what + ")", x.count(what), counts[what]);
        due("1: man(0, 0)", x.man(0, 0), UNKNOWN);
        due("1: square(8, 0)", x.square(8, 0), 0);
        due("1: square(9, 0)", x.square(9, 0), UNKNOWN);
        due("1: fewest()", x.fewest(), 0);
        due("1: back(0)", x.back(0), NOT);
    }

    private void write() {
        WhiteKnights x = new WhiteKnights();
        for (int n : new int[] {0, -1, 9, LEAST, MOST}) due("2: write(0, " + n + ")", x.write(0, n), OUTSIDE);
        due("2: count(8)", x.count(8), 0);
        // What is above the n-th byte does not count.
        due("2: hole", x.write(Check.packed("holeXYZ!"), 4), 4);
        due("2: 3", x.write(Check.packed(" 3"), 2), 6);
        due("2: board()", x.board(), 1);
        due("2: count(3)", x.count(3), 8);
        for (int i = 1; i <= 24; i++) due("2: eight more", x.write(-1, 8), 8 * i);
        due("2: one more", x.write(32, 1), 193);
        due("2: eight do not fit", x.write(0, 8), FULL);
        due("2: OUTSIDE ahead of FULL", x.write(0, 9), OUTSIDE);
        due("2: count(8)", x.count(8), 193);
        due("2: seven fit", x.write(0, 7), 200);
        due("2: one does not fit", x.write(0, 1), FULL);
        due("2: count(8)", x.count(8), 200);
        due("2: fault()", x.fault(), 0);
    }

    private void erase() {
        WhiteKnights x = new WhiteKnights();
        due("3: erase()", x.erase(), 0);
        Check.write(x, "board 2 2");
        due("3: erase()", x.erase(), 9);
        due("3: erase()", x.erase(), 0);
        due("3: count(8)", x.count(8), 0);
        due("3: write", x.write(Check.packed("bare"), 4), 4);
        due("3: board()", x.board(), 1);
        due("3: count(0)", x.count(0), 3);
    }

    private void fault(String text, int place) {
        fault(new WhiteKnights(), text, place);
    }

    private void fault(WhiteKnights x, String text, int place) {
        Check.write(x, text);
        due("4: fault() of " + text, x.fault(), place);
        due("4: fault() again of " + text, x.fault(), place);
        due("4: erase() of " + text, x.erase(), text.length());
    }

    private void faultOfWords() {
        fault("", 0);
        fault("   ", 3);
        for (String word : new String[] {"free", "turns", "safe", "bare"}) fault(word, NONE);
        fault("fre", 0);
        fault("frees", 0);
        fault("freez", 0);
        fault("Free", 0);
        fault("free turns", 5);
        fault("free1", 4);
        fault("free,turns", 4);
        fault("man 0 0 0", 0);
        fault("7", 0);
        fault("\u00e9", 0);
        fault("hole", 4);
        fault("hole ", 5);
        fault("hole x", 5);
        fault("hole 1x", 6);
        fault("hole 1.", 6);
        fault("hole\t1", 4);
        fault(" hole  1 ", NONE);
    }

    private void faultOfNumbers() {
        fault("board 2 2", NONE);
        fault("board 4 3", NONE);
        fault("board 3 4", NONE);
        fault("board 04 02", NONE);
        fault("board 4 4", 8);
        fault("board 1 3", 6);
        fault("board 5 2", 6);
        fault("board 3 1", 8);
        fault("board 3 5", 8);
        fault("board 33", 6);
        fault("board 003 3", 6);
        fault("board 3 3 3", 10);
        fault("hole 8", NONE);
        fault("hole 08", NONE);
        fault("hole 9", 5);
        fault("hole 008", 5);
        fault("hole -1", 5);
        fault("hole 4294967297", 5);
        fault("king 0 0 0", NONE);
        fault("king 1 8 8", NONE);
        fault("king 2 0 0", 5);
        fault("king 0 9 0", 7);
        fault("king 0 0 9", 9);
        fault("king 0 0", 8);
        fault("king 0;free", 6);
    }

    private void faultOfSquares() {
        fault("hole 1;hole 1", 12);
        fault("king 0 1 2;hole 1", 16);
        fault("king 0 1 2;hole 2", 16);
        fault("king 0 1 2;hole 3", NONE);
        fault("hole 1;king 0 1 2", 14);
        fault("hole 1;king 0 2 1", 16);
        fault("king 0 1 2;rook 1 1 3", 18);
        fault("king 0 1 2;rook 1 3 2", 20);
        fault("king 0 1 2;rook 1 2 1", NONE);
        fault("king 0 1 1;rook 1 2 2", NONE);
        fault("board 2 2;hole 4", 15);
        fault("board 2 2;hole 3", NONE);
        fault("board 4 3;hole 11", NONE);
        fault("board 4 3;hole 12", 15);
        fault("hole 1;board 3 3;hole 1", NONE);
        fault("king 0 1 2;bare;hole 1;hole 2", NONE);
        fault("king 0 1 2;board 3 3;hole 1;hole 2", NONE);
    }

    private void faultOfLines() {
        String four = "king 0 0 0;rook 0 1 1;bishop 1 2 2;knight 1 3 3";
        fault(four, NONE);
        fault(four + ";king 0 4 4", four.length() + 1);
        fault(four + ";bare;king 0 4 4", NONE);
        fault("free;", 5);
        fault(";free", 0);
        fault("free;;free", 5);
        fault("free ; free", NONE);
        String twelve = "free;free;free;free;free;free;free;free;free;free;free;free";
        fault(twelve, NONE);
        fault(twelve + ";free", twelve.length());
        fault(twelve + ";", twelve.length());
        fault(twelve + " ", NONE);
    }

    private void faultGoesOnFromTold() {
        WhiteKnights x = Check.told("board 4 3;hole 5;king 0 0 11");
        due("4: hop(0, 1)", x.hop(0, 1), 1);
        fault(x, "hole 11", 5);
        fault(x, "hole 5", 5);
        fault(x, "hole 12", 5);
        fault(x, "hole 0", 5);
        fault(x, "hole 1", NONE);
        fault(x, "king 1 0 2", 7);
        fault(x, "king 1 1 2", NONE);
        fault(x, "king 1 2 11", 9);
        due("4: man(0, 2)", x.man(0, 2), 1);
        due("4: count(3)", x.count(3), 32);
    }

    private void board() {
        WhiteKnights x = new WhiteKnights();
        due("5: board() of nothing", x.board(), NOT);
        due("5: lines", Check.tell(x, "board 2 4;hole 7;king 1 0 6;turns"), 4);
        int[] counts = {2, 4, 1, 128, 1, 0, 0, 0, 0};
        for (int what = 0; what < counts.length; what++) due("5: count(" + what + ")", x.count(what), counts[what]);
        due("5: a fault", Check.tell(x, "safe;hole 0"), NOT);
        due("5: the text stays", x.count(8), 11);
        due("5: LAW stays", x.count(4), 1);
        due("5: erase()", x.erase(), 11);
        due("5: bare", Check.tell(x, "bare"), 1);
        due("5: no MEN", x.count(2), 0);
        due("5: HOLES stay", x.count(3), 128);
        due("5: LAW stays", x.count(4), 1);
        due("5: board", Check.tell(x, "safe;hole 1;board 4 2"), 3);
        due("5: columns", x.count(0), 4);
        due("5: rows", x.count(1), 2);
        due("5: no HOLES", x.count(3), 0);
        due("5: FREE", x.count(4), 0);
        due("5: in their order", Check.tell(x, "safe;free;turns"), 3);
        due("5: the last LAW", x.count(4), 1);
        Check.tell(x, "safe");
        due("5: SAFE", x.count(4), 2);
    }

    private void boardBeginsAnew() {
        WhiteKnights x = Check.told("king 0 0 4;king 1 8 8");
        x.hop(0, 1);
        x.hop(1, 7);
        x.keep(0);
        x.keep(1);
        x.row(0, 0);
        due("5: one more man", Check.tell(x, "rook 0 6 6"), 1);
        due("5: as told", x.man(0, 2), 0);
        due("5: as told", x.man(1, 2), 8);
        due("5: MEN", x.count(2), 3);
        due("5: no HOPS", x.count(5), 0);
        due("5: no ROW", x.count(7), 0);
        due("5: back(0)", x.back(0), NOT);
        due("5: back(1)", x.back(1), NOT);
        due("5: fewest()", x.fewest(), 1);
    }

    private void square() {
        WhiteKnights x = Check.told("hole 4;king 0 0 1;rook 1 8 0");
        due("6: square(4, 0)", x.square(4, 0), 1);
        due("6: square(4, 1)", x.square(4, 1), NONE);
        due("6: square(4, 2)", x.square(4, 2), NONE);
        due("6: square(0, 0)", x.square(0, 0), 0);
        due("6: square(0, 1)", x.square(0, 1), 0);
        due("6: square(0, 2)", x.square(0, 2), 1);
        due("6: square(1, 2)", x.square(1, 2), 0);
        due("6: square(8, 1)", x.square(8, 1), 1);
        x.hop(0, 3);
        due("6: square(0, 1) behind a HOP", x.square(0, 1), NONE);
        due("6: square(3, 1) behind a HOP", x.square(3, 1), 0);
        due("6: square(-1, 0)", x.square(-1, 0), UNKNOWN);
        due("6: square(9, 3)", x.square(9, 3), UNKNOWN);
        due("6: square(MIN, MIN)", x.square(LEAST, LEAST), UNKNOWN);
        for (int what : new int[] {-1, 3, LEAST, MOST}) due("6: square(0, " + what + ")", x.square(0, what), OUTSIDE);
        Check.tell(x, "board 2 2");
        due("6: square(4, 0) on 2 by 2", x.square(4, 0), UNKNOWN);
    }

    private void man() {
        WhiteKnights x = Check.told("board 4 3;knight 0 0 11;king 1 1 10;rook 0 2 9;bishop 1 3 8");
        for (int man = 0; man < 4; man++) {
            due("7: KIND of " + man, x.man(man, 0), man);
            due("7: COLOUR of " + man, x.man(man, 1), man % 2);
            due("7: SQUARE of " + man, x.man(man, 2), man);
            due("7: GOAL of " + man, x.man(man, 3), 11 - man);
        }
        x.hop(2, 10);
        due("7: SQUARE behind a HOP", x.man(2, 2), 10);
        due("7: man(4, 0)", x.man(4, 0), UNKNOWN);
        due("7: man(-1, 9)", x.man(-1, 9), UNKNOWN);
        due("7: man(0, 4)", x.man(0, 4), OUTSIDE);
        due("7: man(0, -1)", x.man(0, -1), OUTSIDE);
        due("7: man(MAX, 0)", x.man(MOST, 0), UNKNOWN);
    }

    private void as() {
        WhiteKnights x = Check.told("board 4 3;hole 6;knight 0 0 0;king 1 1 1;rook 0 4 4;bishop 1 11 11");
        int[] reached = {Check.bits(9), Check.bits(0, 2, 4, 5), Check.bits(0, 5, 8), 0};
        String[] kinds = {"012", "013", "045", "046"};
        for (int man = 0; man < 4; man++) {
            for (int kind = 0; kind <= 6; kind++) {
                boolean such = kinds[man].indexOf('0' + kind) >= 0;
                due("8: as(" + man + ", " + kind + ")", x.as(man, kind), such ? reached[man] : NOT);
            }
        }
        due("8: as(4, 0)", x.as(4, 0), UNKNOWN);
        due("8: as(-1, 7)", x.as(-1, 7), UNKNOWN);
        due("8: as(0, 7)", x.as(0, 7), OUTSIDE);
        due("8: as(0, -1)", x.as(0, -1), OUTSIDE);
        // Nobody's turn, nobody's safety: what is reached does not ask for LAW, and goes on to a MAN's own square.
        Check.tell(x, "board 4 3;bishop 1 0 0;rook 0 3 3;king 0 10 10;knight 1 2 2;turns");
        due("8: slantwise up to a MAN", x.as(0, 6), Check.bits(5, 10));
        due("8: straight up to a MAN", x.as(1, 5), Check.bits(2, 7, 11));
    }

    // ---- hops

    private void mayFree() {
        WhiteKnights x = Check.told("board 4 3;hole 6;knight 0 0 0;king 1 1 1;rook 0 4 4;bishop 1 11 11");
        due("9: knight", x.may(0), Check.bits(9));
        due("9: king", x.may(1), Check.bits(2, 5));
        due("9: rook", x.may(2), Check.bits(5, 8));
        due("9: bishop", x.may(3), 0);
        for (int man : new int[] {-1, 4, LEAST, MOST}) due("9: may(" + man + ")", x.may(man), UNKNOWN);
        Check.tell(x, "board 4 3;rook 0 0 0;bishop 0 9 9");
        due("9: rook alone", x.may(0), Check.bits(1, 2, 3, 4, 8));
        due("9: bishop alone", x.may(1), Check.bits(4, 6, 3));
        Check.tell(x, "board 3 3;knight 0 4 4");
        due("9: knight in the middle", x.may(0), 0);
    }

    private void mayByTurns() {
        WhiteKnights x = Check.told("knight 0 0 8;knight 1 8 0;turns");
        due("9: white", x.may(0), Check.bits(5, 7));
        due("9: black", x.may(1), 0);
        due("10: black", x.hop(1, 1), NOT);
        due("10: white", x.hop(0, 5), 1);
        due("9: white", x.may(0), 0);
        due("9: black", x.may(1), Check.bits(1, 3));
        due("10: white again", x.hop(0, 6), NOT);
        due("10: black", x.hop(1, 1), 2);
        due("9: white", x.may(0), Check.bits(0, 6));
    }

    private void maySafe() {
        WhiteKnights x = Check.told("rook 0 0 3;king 1 8 8;safe");
        due("9: safe rook", x.may(0), Check.bits(1, 3));
        due("9: safe king", x.may(1), Check.bits(5, 7));
        due("10: into an attack", x.hop(0, 2), NOT);
        due("10: safe", x.hop(0, 3), 1);
        Check.tell(x, "board 3 3;rook 0 0 0;rook 1 2 2;king 0 8 8;safe");
        due("11: attacked()", x.attacked(), 7);
        // Only if the black rook goes beside every line is nobody attacked.
        due("9: white rook", x.may(0), 0);
        due("9: black rook", x.may(1), 0);
        Check.tell(x, "board 3 3;rook 0 0 0;rook 1 2 2;safe");
        due("9: out of an attack", x.may(0), Check.bits(3, 6));
        Check.tell(x, "board 3 3;rook 0 0 0;rook 0 2 2;safe");
        due("9: one COLOUR", x.may(0), Check.bits(1, 3, 6));
    }

    private void hop() {
        WhiteKnights x = Check.told("hole 1;king 0 0 8;king 1 3 3");
        due("10: no such MAN", x.hop(2, 0), UNKNOWN);
        due("10: no such MAN", x.hop(-1, 0), UNKNOWN);
        due("10: no such SQUARE", x.hop(0, 9), UNKNOWN);
        due("10: no such SQUARE", x.hop(0, LEAST), UNKNOWN);
        due("10: a HOLE", x.hop(0, 1), NOT);
        due("10: a MAN", x.hop(0, 3), NOT);
        due("10: his own", x.hop(0, 0), NOT);
        due("10: too far", x.hop(0, 8), NOT);
        due("10: count(5)", x.count(5), 0);
        due("10: hop(0, 4)", x.hop(0, 4), 1);
        due("10: hop(0, 8)", x.hop(0, 8), 2);
        due("10: man(0, 2)", x.man(0, 2), 8);
        due("10: count(5)", x.count(5), 2);
    }

    /** More calls than an object is promised for, so that the bound is come to at all. */
    private void hopFull() {
        WhiteKnights x = Check.told("king 0 0 0");
        for (int n = 1; n <= 9999; n++) due("10: hop " + n, x.hop(0, n % 2), n);
        due("10: NOT ahead of FULL", x.hop(0, 8), NOT);
        due("10: FULL", x.hop(0, 0), FULL);
        due("10: nothing changes", x.man(0, 2), 1);
        due("10: nothing changes", x.count(5), 9999);
    }

    private void attacked() {
        due("11: nobody", new WhiteKnights().attacked(), 0);
        WhiteKnights x = Check.told("rook 0 0 0;rook 0 2 2;bishop 1 4 4;knight 1 7 7");
        due("11: attacked()", x.attacked(), Check.bits(0, 1));
        x.hop(1, 1);
        due("11: attacked() behind a HOP", x.attacked(), Check.bits(0, 2));
        Check.tell(x, "board 3 3;rook 0 0 0;king 1 2 2;hole 1");
        due("11: a HOLE between", x.attacked(), 0);
        Check.tell(x, "board 3 3;king 1 0 0;king 0 8 8");
        due("11: far off", x.attacked(), 0);
        Check.tell(x, "board 4 3;rook 0 0 0;knight 0 1 1;king 1 3 3");
        due("11: a MAN between", x.attacked(), 0);
        Check.tell(x, "board 4 3;king 0 0 0;king 0 1 1;turns");
        due("11: of one COLOUR", x.attacked(), 0);
    }

    private void keepAndBack() {
        WhiteKnights x = Check.told("king 0 0 8;king 1 2 2");
        for (int k : new int[] {-1, 2, LEAST, MOST}) {
            due("12: keep(" + k + ")", x.keep(k), UNKNOWN);
            due("13: back(" + k + ")", x.back(k), UNKNOWN);
        }
        due("13: nothing kept", x.back(0), NOT);
        due("12: keep(0)", x.keep(0), 0);
        due("13: the other one", x.back(1), NOT);
        x.hop(0, 4);
        due("12: keep(1)", x.keep(1), 1);
        x.hop(0, 8);
        x.hop(1, 1);
        x.row(0, 0);
        due("13: back(1)", x.back(1), 1);
        due("13: man(0, 2)", x.man(0, 2), 4);
        due("13: man(1, 2)", x.man(1, 2), 2);
        due("13: count(5)", x.count(5), 1);
        due("13: THE ROW stays", x.count(7), 1);
        due("13: fewest()", x.fewest(), 1);
        due("13: back(0)", x.back(0), 0);
        due("13: man(0, 2)", x.man(0, 2), 0);
        due("13: fewest()", x.fewest(), 2);
        due("13: back(1) once more", x.back(1), 1);
        due("12: keep(0) anew", x.keep(0), 1);
        due("13: back(0)", x.back(0), 1);
        due("13: man(0, 2)", x.man(0, 2), 4);
        due("12: without a text", new WhiteKnights().keep(1), 0);
        Check.tell(x, "turns");
        due("13: behind a text", x.back(0), NOT);
    }

    // ---- nets

    private void net() {
        WhiteKnights x = Check.told("board 4 3;hole 5;rook 0 1 1;king 0 4 4");
        due("14: knight", x.net(0, 0), Check.bits(6, 9));
        due("14: king", x.net(1, 0), Check.bits(1, 4));
        due("14: rook alone", x.net(2, 0), Check.bits(1, 2, 3, 4, 8));
        due("14: bishop", x.net(3, 0), 0);
        due("14: bishop", x.net(3, 8), 0);
        due("14: bishop", x.net(3, 9), Check.bits(4, 6, 3));
        due("14: a HOLE", x.net(1, 5), 0);
        refusedInNets("14", x.net(0, 12), x.net(9, -1), x.net(4, 0), x.net(-1, 5));
    }

    /** Of two calls without such a SQUARE, and two with a wrong KIND. */
    private void refusedInNets(String promise, int square, int both, int above, int below) {
        due(promise + ": no such SQUARE", square, UNKNOWN);
        due(promise + ": no such SQUARE, nor KIND", both, UNKNOWN);
        due(promise + ": KIND above", above, OUTSIDE);
        due(promise + ": KIND below, at a HOLE", below, OUTSIDE);
    }

    private void part() {
        WhiteKnights x = Check.told("board 4 3;hole 5;rook 0 1 1;king 0 4 4");
        due("15: bishop", x.part(3, 9), Check.bits(1, 3, 4, 6, 9, 11));
        due("15: bishop", x.part(3, 11), Check.bits(1, 3, 4, 6, 9, 11));
        due("15: bishop alone", x.part(3, 0), 1);
        due("15: bishop, others", x.part(3, 7), Check.bits(2, 7, 10));
        due("15: king", x.part(1, 0), 4095 - 32);
        due("15: a HOLE", x.part(1, 5), 0);
        refusedInNets("15", x.part(0, 12), x.part(9, -1), x.part(4, 0), x.part(-1, 5));
    }

    private void shape(String text, int kind, int square, int shape) {
        due("16: shape(" + kind + ", " + square + ") of " + text, Check.told(text).shape(kind, square), shape);
    }

    private void shape() {
        shape("board 3 3", 0, 4, 0);
        shape("board 3 3", 0, 0, 2);
        shape("board 3 3", 1, 0, 5);
        shape("board 3 3;hole 1", 0, 8, 1);
        shape("board 3 2", 0, 0, 1);
        shape("board 3 2;hole 3;hole 4;hole 5", 1, 0, 1);
        shape("board 3 2;hole 3;hole 4;hole 5", 2, 0, 2);
        shape("board 3 3;hole 1;hole 3;hole 5;hole 7;hole 8", 1, 6, 3);
        shape("board 3 3;hole 1;hole 3;hole 5;hole 7;hole 8", 3, 0, 4);
        shape("board 2 3;hole 3;hole 5", 2, 1, 4);
        shape("board 4 3;hole 5;hole 6;hole 7;hole 8;hole 9;hole 10;hole 11", 1, 2, 4);
        shape("board 3 3;hole 4;hole 5;hole 7;hole 8", 1, 0, 5);
        shape("board 2 2", 2, 3, 2);
        shape("board 2 2", 1, 0, 5);
        shape("board 2 2", 3, 0, 1);
        shape("board 2 2;king 0 0 0;rook 1 1 1", 2, 3, 2);
        WhiteKnights x = Check.told("hole 5");
        due("16: a HOLE", x.shape(0, 5), NOT);
        refusedInNets("16", x.shape(0, 9), x.shape(9, -1), x.shape(4, 0), x.shape(-1, 5));
    }

    private void ring() {
        WhiteKnights x = new WhiteKnights();
        for (int i = 0; i < 8; i++) due("17: ring(0, 0, " + i + ")", x.ring(0, 0, i), KNIGHTS_RING[i]);
        int[] fromSix = {6, 1, 8, 3, 2, 7, 0, 5};
        for (int i = 0; i < 8; i++) due("17: ring(0, 6, " + i + ")", x.ring(0, 6, i), fromSix[i]);
        int[] fromEight = {8, 1, 6, 5, 0, 7, 2, 3};
        for (int i = 0; i < 8; i++) due("17: ring(0, 8, " + i + ")", x.ring(0, 8, i), fromEight[i]);
        due("17: too many", x.ring(0, 0, 8), NONE);
        due("17: too many", x.ring(0, 0, MOST), NONE);
        due("17: ALONE", x.ring(0, 4, 0), NOT);
        due("17: ANY", x.ring(1, 0, 0), NOT);
        due("17: i below 0", x.ring(0, 0, -1), OUTSIDE);
        due("17: i below 0", x.ring(1, 0, LEAST), OUTSIDE);
        due("17: no such SQUARE", x.ring(0, 9, -1), UNKNOWN);
        Check.tell(x, "board 3 2;hole 3;hole 4;hole 5;rook 0 0 0");
        int[] fromOne = {1, 0, 2, NONE};
        for (int i = 0; i < 4; i++) due("17: ring(2, 1, " + i + ")", x.ring(2, 1, i), fromOne[i]);
        due("17: a HOLE", x.ring(2, 3, 0), NOT);
        due("17: a ROW", x.ring(1, 0, 0), NOT);
        refusedInNets("17", x.ring(0, 6, 0), x.ring(9, -1, 0), x.ring(4, 0, 0), x.ring(-1, 3, 0));
    }

    private void turned(String text, int kind, int answer) {
        due("18: turned(" + kind + ") of " + text, Check.told(text).turned(kind), answer);
    }

    private void turned() {
        turned("free", 0, NOT);
        turned("free", 4, OUTSIDE);
        turned("free", -1, OUTSIDE);
        turned("knight 0 0 8", 0, 1);
        turned("knight 0 0 4", 0, NOT);
        turned("knight 0 4 0", 0, NOT);
        turned("knight 0 0 8;knight 0 4 4", 0, NOT);
        turned("knight 0 0 8", 1, NOT);
        turned("king 0 0 8", 1, NOT);
        turned("knight 0 0 8;king 0 1 1", 0, NOT);
        turned("king 0 1 1;knight 0 0 8", 0, NOT);
        turned("knight 0 0 8;knight 1 8 0", 0, 1);
        turned("knight 0 0 6;knight 0 5 1;knight 1 6 8", 0, 1);
        turned("knight 0 0 0;knight 0 5 6;knight 1 6 5", 0, 0);
        turned("knight 0 0 7;knight 0 5 2;knight 1 6 3", 0, 0);
        turned("knight 0 0 3;knight 0 5 2;knight 1 6 7", 0, 1);
        turned("knight 0 6 0;knight 0 0 5;knight 1 5 6", 0, 1);
        turned("knight 0 0 0;knight 0 8 6;knight 0 1 3;knight 0 7 7", 0, 0);
        turned("knight 0 0 0;knight 0 8 3;knight 0 1 6;knight 0 7 7", 0, 1);
        turned("hole 4;bishop 0 1 3;bishop 0 5 1;bishop 1 7 5", 3, 1);
        turned("hole 4;bishop 0 1 5;bishop 0 5 1;bishop 1 7 7", 3, 0);
        turned("hole 5;knight 0 0 8", 0, NOT);
    }

    // ---- foretold

    private void fewest() {
        due("19: without MEN", new WhiteKnights().fewest(), 0);
        WhiteKnights x = Check.told("knight 0 0 8");
        due("19: half around", x.fewest(), 4);
        due("19: nothing changes", x.man(0, 2), 0);
        x.hop(0, 7);
        x.hop(0, 2);
        due("19: from now", x.fewest(), 2);
        due("19: at home", Check.told("king 0 4 4;rook 1 0 0").fewest(), 0);
        due("19: no way", Check.told("knight 0 0 4").fewest(), NONE);
        due("19: order", Check.told("knight 0 0 0;knight 0 5 6;knight 0 6 5").fewest(), NONE);
        due("19: four", Check.told("knight 0 0 8;knight 0 2 6;knight 1 6 2;knight 1 8 0").fewest(), 16);
        due("19: turns", Check.told("knight 0 0 8;knight 1 8 0;turns").fewest(), 8);
        due("19: turns, alone", Check.told("knight 0 0 6;turns").fewest(), NONE);
        due("19: turns, one HOP", Check.told("knight 0 0 5;turns").fewest(), 1);
        due("19: turns, not black's", Check.told("knight 1 0 5;turns").fewest(), NONE);
        due("19: not safe at the end", Check.told("rook 0 0 2;king 1 8 8;safe").fewest(), NONE);
        due("19: the same, free", Check.told("rook 0 0 2;king 1 8 8").fewest(), 1);
        due("19: safe by two", Check.told("board 4 3;rook 0 0 5;king 1 11 11;safe").fewest(), 2);
    }

    private void way() {
        WhiteKnights x = Check.told("knight 0 0 8;knight 1 8 0");
        int[] men = {0, 0, 0, 1, 0, 1, 1, 1};
        int[] squares = {5, 6, 1, 3, 8, 2, 7, 0};
        for (int i = 0; i < 8; i++) {
            due("20: way(" + i + ", 0)", x.way(i, 0), men[i]);
            due("20: way(" + i + ", 1)", x.way(i, 1), squares[i]);
        }
        due("20: behind it", x.way(8, 0), NONE);
        due("20: behind it", x.way(MOST, 1), NONE);
        due("20: i below 0", x.way(-1, 0), OUTSIDE);
        due("20: what", x.way(0, 2), OUTSIDE);
        due("20: what", x.way(0, -1), OUTSIDE);
        due("20: what, behind it", x.way(99, 2), OUTSIDE);
        Check.tell(x, "turns");
        for (int i = 0; i < 8; i++) due("20: by turns", x.way(i, 0), i % 2);
        due("20: by turns", x.way(0, 1), 5);
        x.hop(0, 7);
        due("20: from now, by turns", x.way(0, 0), 1);
        due("20: from now, by turns", x.way(0, 1), 1);
        Check.tell(x, "board 3 3;knight 0 0 4");
        due("20: no way", x.way(0, 0), NONE);
        Check.tell(x, "board 3 3;knight 0 0 0");
        due("20: at home", x.way(0, 1), NONE);
    }

    private void alike() {
        due("21: without MEN", new WhiteKnights().alike(), 0);
        due("21: alike", Check.told("knight 0 0 2;knight 0 2 0").alike(), 0);
        due("21: other COLOUR", Check.told("knight 0 0 2;knight 1 2 0").alike(), 8);
        due("21: other KIND", Check.told("rook 0 0 2;king 0 2 0").alike(),
            Check.told("rook 0 0 2;king 0 2 0").fewest());
        due("21: three", Check.told("knight 0 0 6;knight 0 5 0;knight 0 6 5").alike(), 0);
        due("21: two of three", Check.told("knight 0 0 5;knight 0 5 0;knight 1 6 1").alike(), 1);
        due("21: no way", Check.told("knight 0 0 4;knight 0 5 0").alike(), NONE);
        due("21: the order", Check.told("knight 0 0 0;knight 0 5 6;knight 0 6 5").alike(), 0);
        due("21: kings", Check.told("king 0 0 8;king 0 4 0").alike(), 1);
        due("21: turns", Check.told("king 0 0 8;king 0 4 5;turns").alike(), NONE);
    }

    private void many() {
        WhiteKnights x = Check.told("knight 0 0 8");
        int[] many = {1, 2, 2, 2, 1, 0};
        for (int n = 0; n < many.length; n++) due("22: many(" + n + ")", x.many(n), many[n]);
        due("22: many(MAX)", x.many(MOST), 0);
        due("22: many(-1)", x.many(-1), OUTSIDE);
        due("22: many(MIN)", x.many(LEAST), OUTSIDE);
        Check.tell(x, "turns");
        due("22: turns, 1", x.many(1), 2);
        due("22: turns, 2", x.many(2), 0);
        Check.tell(x, "board 2 2;king 0 0 0;king 1 3 3");
        due("22: all POSITIONS", allPositions(x), 12);
        Check.tell(x, "turns");
        due("22: whose turn, too", allPositions(x), 24);
        Check.tell(x, "board 4 3;king 0 0 0;rook 0 1 1;king 1 2 2;rook 1 3 3");
        due("22: the most", allPositions(x), 12 * 11 * 10 * 9);
        Check.tell(x, "turns");
        due("22: the most by turns", allPositions(x), 2 * 12 * 11 * 10 * 9);
    }

    private static int allPositions(WhiteKnights x) {
        int sum = 0;
        for (int n = 0; n <= x.farthest(0); n++) sum += x.many(n);
        return sum;
    }

    private void farthest() {
        WhiteKnights x = Check.told("knight 0 0 8");
        due("23: n", x.farthest(0), 4);
        due("23: how many", x.farthest(1), 1);
        due("23: what", x.farthest(2), OUTSIDE);
        due("23: what", x.farthest(-1), OUTSIDE);
        Check.tell(x, "turns");
        due("23: n by turns", x.farthest(0), 1);
        due("23: how many by turns", x.farthest(1), 2);
        Check.tell(x, "board 3 3;knight 0 4 4");
        due("23: nowhere", x.farthest(0), 0);
        due("23: nowhere, one", x.farthest(1), 1);
    }

    private void left() {
        WhiteKnights x = Check.told("hole 4;knight 0 0 8");
        for (int square : new int[] {1, 2, 3, 5, 6, 7}) due("24: left(" + square + ")", x.left(square), 4);
        due("24: a HOLE", x.left(4), NOT);
        due("24: a MAN", x.left(0), NOT);
        due("24: a GOAL", x.left(8), NOT);
        due("24: no such SQUARE", x.left(9), UNKNOWN);
        due("24: no such SQUARE", x.left(-1), UNKNOWN);
        x.hop(0, 5);
        due("24: where he was", x.left(0), 3);
        due("24: where he is", x.left(5), NOT);
        due("24: the longer way", x.left(6), 5);
        due("24: nothing changes", x.count(3), 16);
        due("24: nothing changes", x.fewest(), 3);
        Check.tell(x, "hole 7");
        due("24: no way", x.left(5), NONE);
        Check.tell(x, "board 3 3;rook 0 0 2");
        due("24: a HOLE on the line", x.left(1), 3);
    }

    private void added() {
        WhiteKnights x = Check.told("hole 5;hole 7;knight 0 0 8");
        due("25: fewest()", x.fewest(), NONE);
        due("25: added(5)", x.added(5), 4);
        due("25: added(7)", x.added(7), 4);
        due("25: no HOLE", x.added(4), NOT);
        due("25: no HOLE, a MAN", x.added(0), NOT);
        due("25: no such SQUARE", x.added(9), UNKNOWN);
        due("25: no such SQUARE", x.added(-1), UNKNOWN);
        due("25: nothing changes", x.count(3), Check.bits(5, 7));
        due("25: nothing changes", x.fewest(), NONE);
        Check.tell(x, "hole 3;hole 6");
        due("25: no way", x.added(5), NONE);
        Check.tell(x, "board 3 3;hole 1;rook 0 0 2");
        due("25: the line is free", x.added(1), 1);
    }

    // ---- rows

    private void row() {
        WhiteKnights x = Check.told("knight 0 0 8;knight 1 8 0");
        due("27: none", x.burn(), 0);
        due("26: no such MAN", x.row(2, 0), UNKNOWN);
        due("26: no such MAN", x.row(-1, 0), UNKNOWN);
        due("26: no such SQUARE", x.row(0, 9), UNKNOWN);
        due("26: no such SQUARE", x.row(0, -1), UNKNOWN);
        due("26: count(7)", x.count(7), 0);
        for (int n = 1; n <= 12; n++) due("26: row", x.row(0, 0), n);
        due("26: FULL", x.row(0, 0), FULL);
        due("26: UNKNOWN ahead of FULL", x.row(2, 0), UNKNOWN);
        due("26: count(7)", x.count(7), 12);
        due("27: burn()", x.burn(), 12);
        due("27: burn() again", x.burn(), 0);
        due("27: count(7)", x.count(7), 0);
        due("27: judge()", x.judge(), NONE);
        due("26: row", x.row(1, 8), 1);
    }

    private void judge() {
        WhiteKnights x = Check.told("knight 0 0 8;knight 1 8 0");
        due("28: no ROW", x.judge(), NONE);
        x.row(0, 5);
        x.row(0, 6);
        x.row(0, 1);
        due("28: all may be", x.judge(), NONE);
        x.row(0, 8);
        due("28: onto a MAN", x.judge(), 3);
        x.row(0, 6);
        due("28: the first one", x.judge(), 3);
        due("28: nothing changes", x.man(0, 2), 0);
        due("28: nothing changes", x.count(5), 0);
        x.hop(1, 3);
        due("28: from now", x.judge(), 4);
        x.hop(0, 7);
        due("28: from now", x.judge(), 0);
        Check.tell(x, "turns");
        x.row(0, 5);
        x.row(1, 1);
        due("28: by turns", x.judge(), NONE);
        x.row(1, 8);
        due("28: not his turn", x.judge(), 2);
        x.hop(0, 5);
        due("28: not his turn now", x.judge(), 0);
        Check.tell(x, "board 3 3;rook 0 0 0;king 1 8 8;safe");
        x.row(0, 3);
        x.row(0, 0);
        x.row(0, 6);
        due("28: not safe", x.judge(), 2);
    }

    private void count() {
        WhiteKnights x = Check.told("board 4 2;hole 0;hole 7;king 0 1 1;king 1 2 3;king 1 5 4;safe");
        int[] counts = {4, 2, 3, Check.bits(0, 7), 2, 0, 1, 0, 0};
        for (int what = 0; what < counts.length; what++) due("29: count(" + what + ")", x.count(what), counts[what]);
        Check.tell(x, "free");
        x.hop(1, 3);
        x.hop(2, 4);
        x.hop(0, 2);
        x.row(0, 1);
        x.write(32, 1);
        due("29: HOPS", x.count(5), 3);
        due("29: MEN at their GOALS", x.count(6), Check.bits(1, 2));
        due("29: THE ROW", x.count(7), 1);
        due("29: bytes", x.count(8), 1);
        for (int what : new int[] {-1, 9, LEAST, MOST}) due("29: count(" + what + ")", x.count(what), OUTSIDE);
    }
}
