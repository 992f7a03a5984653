/** What is foretold, and rows of hops, at their boundaries: none, at home, no way, the last hop, a full row. */
public final class ForetoldBoundsTest {
    private static final int NONE = -1, NOT = -4, FULL = -5;
    private static final int MOST = Integer.MAX_VALUE;
    private static final String[] BOARDS = {
        "knight 0 0 8;knight 0 2 6;knight 1 6 2;knight 1 8 0",
        "knight 0 0 8;knight 1 8 0;turns",
        "knight 0 0 8;knight 1 8 0;safe",
        "board 4 3;hole 5;king 0 0 11;rook 1 3 8;bishop 0 9 3",
        "board 4 3;hole 5;king 0 0 11;rook 1 3 8;turns",
        "board 4 3;rook 0 0 5;king 1 11 11;safe",
        "board 2 4;hole 3;king 0 0 6;king 0 1 7;king 1 6 0;king 1 7 1",
        "board 3 4;bishop 0 0 8;bishop 1 11 9;rook 0 3 3;turns"};

    private final Check check = new Check();

    public static void main(String[] args) {
        ForetoldBoundsTest test = new ForetoldBoundsTest();
        test.foretold();
        test.changed();
        test.rows();
        test.counts();
        test.check.end();
    }

    private void due(String call, int got, int want) {
        check.due(call, got, want);
    }

    private void foretold() {
        withoutMen();
        atHome();
        noWay();
        for (String board : BOARDS) wayIsGone(board);
        firstWay();
        alike();
        for (String board : BOARDS) positionsByHowFar(board);
        positionsByTurns();
        positionsBySafe();
    }

    private void withoutMen() {
        for (String text : new String[] {"free", "turns", "safe", "hole 4", "king 0 0 8;bare", "board 2 2"}) {
            WhiteKnights x = Check.told(text);
            due("fewest() of " + text, x.fewest(), 0);
            due("alike() of " + text, x.alike(), 0);
            due("way(0, 0) of " + text, x.way(0, 0), NONE);
            due("way(0, 1) of " + text, x.way(0, 1), NONE);
            due("many(0) of " + text, x.many(0), 1);
            due("many(1) of " + text, x.many(1), 0);
            due("farthest(0) of " + text, x.farthest(0), 0);
            due("farthest(1) of " + text, x.farthest(1), 1);
        }
        WhiteKnights x = Check.told("hole 4");
        for (int square = 0; square < 9; square++) {
            due("left(" + square + ")", x.left(square), square == 4 ? NOT : 0);
            due("added(" + square + ")", x.added(square), square == 4 ? 0 : NOT);
        }
    }

    private void atHome() {
        for (String law : new String[] {"free", "turns", "safe"}) {
            WhiteKnights x = Check.told("king 0 0 0;king 1 1 1;" + law);
            due("fewest() by " + law, x.fewest(), 0);
            due("alike() by " + law, x.alike(), 0);
            due("way(0, 0) by " + law, x.way(0, 0), NONE);
            due("way(MAX, 1) by " + law, x.way(MOST, 1), NONE);
            due("count(6)", x.count(6), 3);
        }
    }

    // "none: it can not be"
    private void noWay() {
        String[] texts = {"knight 0 0 4", "bishop 0 0 1", "hole 1;hole 3;rook 0 0 8", "knight 1 0 5;turns",
            "knight 0 0 6;turns", "rook 0 0 2;king 1 8 8;safe", "board 3 2;hole 3;hole 4;hole 5;king 0 0 2;king 1 2 0",
            "board 2 2;king 0 0 3;king 0 1 2;rook 1 2 1;rook 1 3 0"};
        for (String text : texts) {
            WhiteKnights x = Check.told(text);
            due("fewest() of " + text, x.fewest(), NONE);
            due("alike() of " + text, x.alike(), NONE);
            for (int what = 0; what < 2; what++) {
                due("way(0, " + what + ") of " + text, x.way(0, what), NONE);
                due("way(MAX, " + what + ") of " + text, x.way(MOST, what), NONE);
            }
        }
    }

    // "the MAN (what 0), the SQUARE (1) of HOP i (from 0); NONE: there are not so many"
    private void wayIsGone(String board) {
        WhiteKnights x = Check.told(board);
        int length = x.fewest();
        check.due("a way on " + board, length > 0);
        int[] men = new int[length];
        int[] squares = new int[length];
        for (int i = 0; i < length; i++) {
            men[i] = x.way(i, 0);
            squares[i] = x.way(i, 1);
        }
        due("behind the last HOP: MAN", x.way(length, 0), NONE);
        due("behind the last HOP: SQUARE", x.way(length, 1), NONE);
        due("MAX", x.way(MOST, 0), NONE);
        for (int i = 0; i < length; i++) {
            due(board + ": hop " + i, x.hop(men[i], squares[i]), i + 1);
            due(board + ": one fewer behind " + i, x.fewest(), length - i - 1);
            if (i + 1 < length) {
                due(board + ": the way goes on, MAN", x.way(0, 0), men[i + 1]);
                due(board + ": the way goes on, SQUARE", x.way(0, 1), squares[i + 1]);
            }
            due(board + ": none behind it", x.way(length - i - 1, 0), NONE);
        }
        due(board + ": all are home", x.count(6), (1 << x.count(2)) - 1);
    }

    // "the first such row (by MEN's numbers, then SQUARES, HOP by HOP)"
    private void firstWay() {
        WhiteKnights x = Check.told("king 0 0 2");
        due("by 1 rather than 4", x.way(0, 1), 1);
        Check.tell(x, "board 3 3;rook 0 8 0");
        due("by 2 rather than 6", x.way(0, 1), 2);
        Check.tell(x, "board 3 3;king 0 0 1;king 1 8 7");
        due("MAN 0 rather than 1", x.way(0, 0), 0);
        due("MAN 1 then", x.way(1, 0), 1);
        Check.tell(x, "board 3 3;king 0 8 7;king 1 0 1");
        due("the MAN ahead of the SQUARE", x.way(0, 1), 7);
        Check.tell(x, "board 4 3;king 0 0 1;king 0 1 2");
        due("MAN 0 cannot be first", x.way(0, 0), 1);
        due("MAN 0 then", x.way(1, 1), 1);
    }

    // "if those of like KIND and COLOUR may have each other's GOALS"
    private void alike() {
        String[] pairs = {"king 0 0 1;king 0 1 0", "king 0 0 1;king 1 1 0", "king 1 0 1;king 1 1 0",
            "king 0 0 1;rook 0 1 0", "king 0 0 1;rook 1 1 0"};
        for (int n = 0; n < pairs.length; n++) {
            WhiteKnights x = Check.told(pairs[n]);
            boolean like = n == 0 || n == 2;
            due("alike() of " + pairs[n], x.alike(), like ? 0 : x.fewest());
            check.due("fewest() of " + pairs[n], x.fewest() > 0);
            due("count(6) of " + pairs[n], x.count(6), 0);
        }
        WhiteKnights x = Check.told("king 0 0 1;king 0 1 2;king 0 2 3;king 0 3 0");
        due("four in a round", x.alike(), 0);
        Check.tell(x, "board 3 3;king 0 0 2;king 1 1 0;king 0 2 1");
        due("the third has the first one's GOAL", x.alike(), 3);
        Check.tell(x, "board 3 3;knight 0 0 0;knight 0 5 6;knight 1 6 5");
        due("NONE, if each goes to his own", x.fewest(), NONE);
        due("around the ring, if white ones are alike", x.alike(), 8);
        Check.tell(x, "board 3 3;knight 0 0 0;knight 0 5 6;knight 0 6 5;safe");
        due("NONE, but alike", x.fewest(), NONE);
        due("NONE, but alike", x.alike(), 0);
    }

    // "how many POSITIONS are n HOPS from now, and no fewer"; "the greatest such n, how many"
    private void positionsByHowFar(String board) {
        WhiteKnights x = Check.told(board);
        int farthest = x.farthest(0);
        due(board + ": many(0)", x.many(0), 1);
        due(board + ": many at the farthest", x.many(farthest), x.farthest(1));
        for (int n = 1; n <= farthest; n++) check.due(board + ": many(" + n + ")", x.many(n) > 0);
        due(board + ": one farther", x.many(farthest + 1), 0);
        due(board + ": MAX", x.many(MOST), 0);
        int hops = 0;
        for (int man = 0; man < x.count(2); man++) hops += Integer.bitCount(x.may(man));
        due(board + ": many(1) are the HOPS now", x.many(1), hops);
        check.due(board + ": fewest() is not farther", x.fewest() <= farthest);
    }

    // "A POSITION is where each MAN is (by TURNS: whose turn it is, too)"
    private void positionsByTurns() {
        WhiteKnights x = Check.told("board 2 2;bishop 0 0 3;bishop 1 1 1");
        due("FREE: both, each at two", x.many(1), 2);
        due("FREE", x.many(2), 1);
        due("FREE", x.farthest(0), 2);
        Check.tell(x, "turns");
        int[] many = {1, 1, 1, 1, 0};
        for (int n = 0; n < many.length; n++) due("TURNS: many(" + n + ")", x.many(n), many[n]);
        due("TURNS", x.farthest(0), 3);
    }

    private void positionsBySafe() {
        WhiteKnights x = Check.told("board 2 2;bishop 0 0 0;bishop 1 3 3;safe");
        due("attacked, none may HOP", x.farthest(0), 0);
        Check.tell(x, "board 2 2;rook 0 0 0;rook 1 1 1;safe");
        due("out of the attack, slantwise", x.many(1), 2);
        int sum = 0;
        for (int n = 0; n < 5; n++) sum += x.many(n);
        due("now, and two that stay", sum, 3);
    }

    // ---- "LEFT: FEWEST, were a SQUARE without MAN and GOAL a HOLE. ADDED: FEWEST, were a HOLE none."

    private void changed() {
        leftOfEach();
        addedOfEach();
        changedBySafe();
        changedByTurns();
    }

    private void leftOfEach() {
        WhiteKnights x = Check.told("hole 4;knight 0 0 8");
        int[] due = {NOT, 4, 4, 4, NOT, 4, 4, 4, NOT};
        for (int square = 0; square < 9; square++) due("left(" + square + ")", x.left(square), due[square]);
        x.hop(0, 7);
        int[] then = {3, 3, 5, 5, NOT, 3, 3, NOT, NOT};
        for (int square = 0; square < 9; square++) due("then left(" + square + ")", x.left(square), then[square]);
        due("HOLES are as they were", x.count(3), Check.bits(4));
        due("fewest() is as it was", x.fewest(), 3);
        Check.tell(x, "board 2 2;rook 0 0 3");
        due("the other way", x.left(1), 2);
        due("the other way", x.left(2), 2);
        Check.tell(x, "hole 1");
        due("no way is left", x.left(2), NONE);
        due("a HOLE", x.left(1), NOT);
        Check.tell(x, "board 3 3;king 0 0 0");
        for (int square = 1; square < 9; square++) due("at home: left(" + square + ")", x.left(square), 0);
        due("both MAN and GOAL", x.left(0), NOT);
    }

    private void addedOfEach() {
        WhiteKnights x = Check.told("hole 5;hole 7;knight 0 0 8");
        int[] due = {NOT, NOT, NOT, NOT, NOT, 4, NOT, 4, NOT};
        for (int square = 0; square < 9; square++) due("added(" + square + ")", x.added(square), due[square]);
        due("HOLES are as they were", x.count(3), Check.bits(5, 7));
        due("fewest() is as it was", x.fewest(), NONE);
        Check.tell(x, "hole 3;hole 6;hole 2;hole 1");
        for (int square : new int[] {1, 2, 3, 5, 6, 7}) due("no way: added(" + square + ")", x.added(square), NONE);
        Check.tell(x, "board 2 2;hole 0;hole 1;hole 2;king 0 3 3");
        for (int square = 0; square < 3; square++) due("at home: added(" + square + ")", x.added(square), 0);
    }

    private void changedBySafe() {
        WhiteKnights x = Check.told("board 4 3;rook 0 4 0;king 1 3 3;safe");
        due("attacked at the end", x.fewest(), NONE);
        due("a HOLE bars the attack", x.left(1), 1);
        due("a HOLE bars the attack", x.left(2), 1);
        due("a HOLE elsewhere", x.left(5), NONE);
        Check.tell(x, "hole 1");
        due("barred", x.fewest(), 1);
        due("no more barred", x.added(1), NONE);
    }

    private void changedByTurns() {
        WhiteKnights x = Check.told("board 2 3;hole 4;king 0 0 2;king 1 5 5;turns");
        due("white's HOP", x.fewest(), 1);
        x.hop(0, 2);
        x.hop(1, 3);
        due("white goes away, black home, white home", x.fewest(), 3);
        due("by the added SQUARE", x.added(4), 3);
        due("white goes away by 1", x.left(0), 3);
        due("white goes away by 0", x.left(1), 3);
        Check.tell(x, "board 2 2;king 0 0 0;king 1 3 3;turns");
        x.hop(0, 1);
        due("black goes away, white home, black home", x.fewest(), 3);
        due("all go around the three that are left", x.left(2), 5);
    }

    // ---- "THE ROW, 12 HOPS at most: a MAN and a SQUARE each; JUDGED: the first that may not be"

    private void rows() {
        rowOfTwelve();
        rowOfWhatMayNotBe();
        firstThatMayNotBe();
        judgedFromNow();
        rowStays();
    }

    private void rowOfTwelve() {
        WhiteKnights x = Check.told("king 0 0 0;king 1 8 8");
        due("burn() of nothing", x.burn(), 0);
        for (int round = 0; round < 2; round++) {
            for (int n = 1; n <= 12; n++) {
                due("row " + n, x.row(0, n % 2), n);
                due("count(7)", x.count(7), n);
                due("judge()", x.judge(), NONE);
            }
            due("a thirteenth", x.row(0, 1), FULL);
            due("a fourteenth", x.row(1, 7), FULL);
            due("count(7)", x.count(7), 12);
            due("judge()", x.judge(), NONE);
            due("burn()", x.burn(), 12);
            due("burn() again", x.burn(), 0);
            due("count(7)", x.count(7), 0);
            due("judge() of nothing", x.judge(), NONE);
        }
    }

    private void rowOfWhatMayNotBe() {
        int[] squares = {0, 4, 8, 2, 6};
        for (int square : squares) {
            WhiteKnights x = Check.told("hole 4;king 0 0 0;king 1 8 8");
            due("row(0, " + square + ")", x.row(0, square), 1);
            due("judge()", x.judge(), 0);
            due("nobody has hopped", x.man(0, 2), 0);
            due("no HOP", x.count(5), 0);
        }
    }

    private void firstThatMayNotBe() {
        for (int wrong = 0; wrong < 12; wrong++) {
            WhiteKnights x = Check.told("king 0 0 0");
            for (int n = 0; n < 12; n++) x.row(0, n == wrong ? 8 : 1 - n % 2);
            due("the wrong one is " + wrong, x.judge(), wrong);
            due("nothing changes", x.man(0, 2), 0);
            due("nothing changes", x.count(7), 12);
        }
    }

    private void judgedFromNow() {
        WhiteKnights x = Check.told("king 0 0 0;king 1 8 8;turns");
        x.row(0, 1);
        x.row(1, 7);
        due("white begins", x.judge(), NONE);
        x.hop(0, 3);
        due("black's turn now", x.judge(), 0);
        x.burn();
        x.row(1, 7);
        x.row(0, 0);
        x.row(0, 1);
        due("black begins now, white not twice", x.judge(), 2);
        Check.tell(x, "safe");
        x.row(0, 4);
        due("beside the other king", x.judge(), 0);
        x.hop(1, 5);
        due("beside him still", x.judge(), 0);
        Check.tell(x, "board 4 3;king 0 0 0;king 1 11 11;safe");
        x.row(0, 1);
        x.row(0, 2);
        x.row(0, 6);
        due("the third is attacked", x.judge(), 2);
    }

    private void rowStays() {
        WhiteKnights x = Check.told("king 0 0 0;king 1 8 8");
        x.keep(0);
        x.row(0, 1);
        x.row(0, 2);
        x.hop(0, 3);
        due("from 3 by 1 to 2", x.judge(), NONE);
        due("behind a HOP", x.count(7), 2);
        x.back(0);
        due("behind back(0)", x.count(7), 2);
        due("judge()", x.judge(), NONE);
        Check.write(x, "free");
        due("behind write", x.count(7), 2);
        x.erase();
        due("behind erase()", x.count(7), 2);
        Check.write(x, "x");
        x.board();
        due("behind board() of a FAULT", x.count(7), 2);
        x.erase();
        Check.tell(x, "free");
        due("behind a text", x.count(7), 0);
        due("burn()", x.burn(), 0);
    }

    // ---- "0 columns, 1 rows, 2 MEN, 3 HOLES .., 8 bytes of THE TEXT", at their least and greatest

    private void counts() {
        WhiteKnights x = Check.told("board 4 3;king 0 0 0;king 0 1 1;king 1 2 2;king 1 3 3;safe");
        for (int n = 0; n < 12; n++) x.row(0, 0);
        Check.write(x, "y".repeat(200));
        int[] counts = {4, 3, 4, 0, 2, 0, 15, 12, 200};
        for (int what = 0; what < counts.length; what++) due("count(" + what + ")", x.count(what), counts[what]);
        x.erase();
        Check.tell(x, "board 2 4;hole 0;hole 7;king 0 1 2;king 0 2 1;king 0 3 3;turns");
        int[] then = {2, 4, 3, 129, 1, 0, 4, 0, 0};
        for (int what = 0; what < then.length; what++) due("then count(" + what + ")", x.count(what), then[what]);
        x.hop(2, 4);
        due("HOPS", x.count(5), 1);
        due("nobody is home", x.count(6), 0);
    }
}
