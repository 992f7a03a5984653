/** The board at its boundaries: its edges, holes and men in the way, laws, nets and their shapes, rings and orders. */
public final class BoardBoundsTest {
    private static final int NONE = -1, NOT = -4;
    private static final int MOST = Integer.MAX_VALUE;
    private static final int KNIGHT = 0, KING = 1, ROOK = 2, BISHOP = 3;
    private static final int ALONE = 0, ROW = 1, RING = 2, TREE = 3, TAIL = 4, ANY = 5;
    // The knight's ring of ten on three columns and four rows without 1 and 10, from 0 on, to the lesser one first.
    private static final String TEN = "board 3 4;hole 1;hole 10";
    private static final int[] RING_OF_TEN = {0, 5, 6, 11, 4, 9, 8, 3, 2, 7};

    private final Check check = new Check();

    public static void main(String[] args) {
        BoardBoundsTest test = new BoardBoundsTest();
        test.newObject();
        test.reaching();
        test.hopping();
        test.laws();
        test.keeping();
        test.shapes();
        test.rings();
        test.orders();
        test.check.end();
    }

    private void due(String call, int got, int want) {
        check.due(call, got, want);
    }

    // "Three columns and rows, no MEN": as "board 3 3" tells, LAW FREE, no HOLES, THE TEXT and THE ROW empty
    private void newObject() {
        int[] counts = {3, 3, 0, 0, 0, 0, 0, 0, 0};
        WhiteKnights x = new WhiteKnights();
        for (int what = 0; what < counts.length; what++) due("count(" + what + ")", x.count(what), counts[what]);
        due("back(0)", x.back(0), NOT);
        due("back(1)", x.back(1), NOT);
        WhiteKnights told = Check.told("board 3 3");
        for (int square = 0; square < 9; square++) {
            for (int kind = 0; kind < 4; kind++) {
                due("net(" + kind + ", " + square + ")", x.net(kind, square), told.net(kind, square));
                due("shape(" + kind + ", " + square + ")", x.shape(kind, square), told.shape(kind, square));
            }
        }
        due("knight's ring", new WhiteKnights().shape(KNIGHT, 0), RING);
        due("knight alone", new WhiteKnights().part(KNIGHT, 4), Check.bits(4));
        Inquest.same(check, "being new", new WhiteKnights(), Check.told("board 3 3"));
    }

    // ---- what is reached

    private void reaching() {
        edgesOfEachBoard();
        edgesByHand();
        upToTheFirstHole();
        upToTheFirstMan();
        leapsOverAll();
        netOfOneAlone();
        kindsOverOneAnother();
    }

    /** Row by row, and nobody comes around an edge: as columns and rows tell, on every board. */
    private void edgesOfEachBoard() {
        for (int w = 2; w <= 4; w++) {
            for (int h = 2; h <= 4 && w * h <= 12; h++) {
                WhiteKnights x = Check.told("board " + w + " " + h);
                for (int from = 0; from < w * h; from++) {
                    int[] bits = new int[4];
                    for (int to = 0; to < w * h; to++) {
                        int across = Math.abs(from % w - to % w);
                        int down = Math.abs(from / w - to / w);
                        if (across + down == 3 && across > 0 && down > 0) bits[KNIGHT] |= 1 << to;
                        if (Math.max(across, down) == 1) bits[KING] |= 1 << to;
                        if ((across == 0) != (down == 0)) bits[ROOK] |= 1 << to;
                        if (across == down && across > 0) bits[BISHOP] |= 1 << to;
                    }
                    for (int kind = 0; kind < 4; kind++) {
                        due("net(" + kind + ", " + from + ") on " + w + " by " + h, x.net(kind, from), bits[kind]);
                    }
                }
            }
        }
    }

    private void edgesByHand() {
        WhiteKnights wide = Check.told("board 4 3");
        due("knight at the right edge", wide.net(KNIGHT, 3), Check.bits(5, 10));
        due("king at the right edge", wide.net(KING, 3), Check.bits(2, 6, 7));
        due("rook at the right edge", wide.net(ROOK, 3), Check.bits(0, 1, 2, 7, 11));
        due("bishop at the right edge", wide.net(BISHOP, 3), Check.bits(6, 9));
        due("knight at the left edge", wide.net(KNIGHT, 4), Check.bits(2, 10));
        due("king at the left edge", wide.net(KING, 4), Check.bits(0, 1, 5, 8, 9));
        due("rook at the left edge", wide.net(ROOK, 4), Check.bits(0, 5, 6, 7, 8));
        due("bishop at the left edge", wide.net(BISHOP, 4), Check.bits(1, 9));
        due("king in the last corner", wide.net(KING, 11), Check.bits(6, 7, 10));
        due("rook in the last corner", wide.net(ROOK, 11), Check.bits(3, 7, 8, 9, 10));
        WhiteKnights high = Check.told("board 3 4");
        due("knight on three columns", high.net(KNIGHT, 3), Check.bits(2, 8, 10));
        due("king on three columns", high.net(KING, 3), Check.bits(0, 1, 4, 6, 7));
        due("rook on three columns", high.net(ROOK, 3), Check.bits(0, 4, 5, 6, 9));
        due("bishop on three columns", high.net(BISHOP, 3), Check.bits(1, 7, 11));
        WhiteKnights least = Check.told("board 2 2");
        for (int square = 0; square < 4; square++) {
            due("knight on 2 by 2", least.net(KNIGHT, square), 0);
            due("king on 2 by 2", least.net(KING, square), 15 - (1 << square));
            due("rook on 2 by 2", least.net(ROOK, square), 15 - (1 << square) - (1 << 3 - square));
            due("bishop on 2 by 2", least.net(BISHOP, square), 1 << 3 - square);
        }
    }

    // "up to the first HOLE or MAN (that of a MAN, too)"
    private void upToTheFirstHole() {
        for (int hole = 1; hole <= 3; hole++) {
            WhiteKnights x = Check.told("board 4 3;hole " + hole + ";rook 0 0 0");
            int before = (1 << hole) - 2;
            due("rook ahead of HOLE " + hole, x.as(0, 5), before | Check.bits(4, 8));
            due("may(0)", x.may(0), before | Check.bits(4, 8));
        }
        WhiteKnights x = Check.told("board 4 3;hole 5;hole 3;bishop 0 9 9;bishop 1 10 10");
        due("bishop ahead of a HOLE", x.as(0, 6), Check.bits(4, 6));
        due("bishop beside a HOLE", x.as(1, 6), Check.bits(7));
    }

    private void upToTheFirstMan() {
        for (int man = 1; man <= 3; man++) {
            for (int colour = 0; colour < 2; colour++) {
                WhiteKnights x = Check.told("board 4 3;rook 0 0 0;knight " + colour + " " + man + " " + man);
                int before = (1 << man) - 2;
                due("rook up to MAN " + man, x.as(0, 5), before | 1 << man | Check.bits(4, 8));
                due("rook hops ahead of MAN " + man, x.may(0), before | Check.bits(4, 8));
                due("attacked()", x.attacked(), colour == 1 ? Check.bits(1) : 0);
            }
        }
        WhiteKnights x = Check.told("board 4 3;bishop 0 9 9;king 0 6 6;king 1 3 3");
        due("bishop up to a MAN", x.as(0, 6), Check.bits(4, 6));
        due("bishop hops ahead of him", x.may(0), Check.bits(4));
        due("none behind him is attacked by the bishop", x.attacked(), Check.bits(1, 2));
        Check.tell(x, "board 4 3;rook 0 0 0;king 0 1 1;hole 4");
        due("rook between a MAN and a HOLE", x.as(0, 5), Check.bits(1));
        due("rook between them may not", x.may(0), 0);
    }

    private void leapsOverAll() {
        WhiteKnights x = Check.told("board 4 3;hole 1;hole 5;knight 0 0 0;king 1 4 4;king 0 6 6;rook 1 9 9");
        due("knight over HOLES and MEN", x.as(0, 2), Check.bits(6, 9));
        due("nobody is hopped on", x.may(0), 0);
        due("attacked()", x.attacked(), Check.bits(0, 3));
    }

    // "if one alone of that KIND REACHES one from the other"
    private void netOfOneAlone() {
        WhiteKnights x = Check.told("board 4 3;hole 2;rook 0 1 1;rook 1 4 4;bishop 0 5 5;king 1 9 9");
        due("MEN do not bar", x.net(ROOK, 0), Check.bits(1, 4, 8));
        due("MEN do not bar", x.net(BISHOP, 0), Check.bits(5, 10));
        due("MEN do not bar", x.part(ROOK, 0), 4095 - 4);
        for (int kind = 0; kind < 4; kind++) {
            due("net of a HOLE", x.net(kind, 2), 0);
            due("part of a HOLE", x.part(kind, 2), 0);
            due("shape of a HOLE", x.shape(kind, 2), NOT);
            for (int square = 0; square < 12; square++) {
                due("none comes to a HOLE", x.net(kind, square) & 4, 0);
                due("none comes to a HOLE", x.part(kind, square) & 4, 0);
                if (square != 2) due("part has itself", x.part(kind, square) >> square & 1, 1);
            }
        }
    }

    // "A MAN taken as a KIND (0 .. 6, as they are over one another)"; "NOT: he is none such"
    private void kindsOverOneAnother() {
        String[] kinds = {"knight", "king", "rook", "bishop"};
        boolean[][] such = {{true, true, true, false, false, false, false},
            {true, true, false, true, false, false, false}, {true, false, false, false, true, true, false},
            {true, false, false, false, true, false, true}};
        for (int kind = 0; kind < 4; kind++) {
            WhiteKnights x = Check.told("board 4 3;" + kinds[kind] + " 0 6 6");
            for (int as = 0; as <= 6; as++) {
                due(kinds[kind] + " as " + as, x.as(0, as), such[kind][as] ? x.net(kind, 6) : NOT);
            }
        }
    }

    // ---- hops

    // "A HOP: to a SQUARE that he REACHES on which nobody is"; "how many there were"
    private void hopping() {
        WhiteKnights x = Check.told("hole 1;king 0 0 8;king 1 4 4;king 0 3 3");
        for (int square : new int[] {0, 1, 2, 3, 4, 5, 6, 7, 8}) {
            due("none is free for man 0: hop(0, " + square + ")", x.hop(0, square), NOT);
        }
        due("HOPS", x.count(5), 0);
        due("he is as he was", x.man(0, 2), 0);
        due("hop(2, 6)", x.hop(2, 6), 1);
        due("the SQUARE is free then", x.may(0), Check.bits(3));
        due("hop(0, 3)", x.hop(0, 3), 2);
        due("his own SQUARE", x.hop(0, 3), NOT);
        due("back again", x.hop(0, 0), 3);
        for (int n = 4; n <= 200; n++) due("hop " + n, x.hop(0, n % 2 == 0 ? 3 : 0), n);
    }

    private void laws() {
        byTurns();
        turnsBehindBack();
        bySafe();
        attackedBothWays();
    }

    // "By TURNS white ones HOP if HOPS so far are even, black ones else."
    private void byTurns() {
        WhiteKnights x = Check.told("board 4 3;king 0 0 0;king 1 11 11;turns");
        for (int n = 0; n < 20; n++) {
            boolean white = n % 2 == 0;
            int there = n / 2 % 2;
            check.due("white's turn at " + n, (x.may(0) != 0) == white);
            check.due("black's turn at " + n, (x.may(1) != 0) != white);
            due("not his turn", white ? x.hop(1, 11 - 1 + there) : x.hop(0, there), NOT);
            due("his turn", white ? x.hop(0, 1 - there) : x.hop(1, 10 + there), n + 1);
        }
        Check.tell(x, "board 3 3;king 1 0 1;turns");
        due("black alone never begins", x.may(0), 0);
        due("black alone", x.fewest(), NONE);
        due("black alone", x.farthest(0), 0);
        Check.tell(x, "free");
        due("FREE", x.fewest(), 1);
    }

    private void turnsBehindBack() {
        WhiteKnights x = Check.told("board 4 3;king 0 0 0;king 1 11 11;turns");
        x.hop(0, 1);
        due("keep(0)", x.keep(0), 1);
        x.hop(1, 10);
        due("white's turn", x.may(1), 0);
        due("back(0)", x.back(0), 1);
        due("black's turn again", x.may(0), 0);
        check.due("black's turn again", x.may(1) != 0);
        due("black goes away, white home, black home", x.fewest(), 3);
    }

    // "By SAFE nobody may be ATTACKED behind a HOP."
    private void bySafe() {
        WhiteKnights x = Check.told("board 4 3;rook 0 0 0;king 1 3 3;safe");
        due("attacked ahead of a HOP", x.attacked(), Check.bits(1));
        due("the rook goes away", x.may(0), Check.bits(4, 8));
        due("the king goes away", x.may(1), Check.bits(6, 7));
        due("into another attack", x.hop(1, 2), NOT);
        due("all at home, though attacked", x.fewest(), 0);
        due("none of them comes back", x.many(0), 1);
        due("out of it", x.hop(1, 7), 1);
        due("back into it", x.hop(1, 3), NOT);
        due("never at home again", x.fewest(), NONE);
        Check.tell(x, "board 4 3;rook 0 0 0;rook 0 3 3;safe");
        due("one COLOUR alone attacks nobody", x.may(0), Check.bits(1, 2, 4, 8));
        Check.tell(x, "board 4 3;rook 0 0 0;knight 0 1 1;knight 1 3 3;safe");
        due("nobody is attacked", x.attacked(), 0);
        due("the rook's line is barred", x.may(0), Check.bits(4, 8));
        due("who bars it stays", x.may(1), 0);
        due("not beside a knight's attack", x.may(2), Check.bits(5));
    }

    // "ATTACKED is who is at a SQUARE that a MAN of the other COLOUR REACHES."
    private void attackedBothWays() {
        due("without MEN", new WhiteKnights().attacked(), 0);
        due("all four", Check.told("board 2 2;king 0 0 0;king 1 1 1;king 0 2 2;king 1 3 3").attacked(), 15);
        due("one way", Check.told("rook 0 0 0;knight 1 2 2").attacked(), Check.bits(1));
        due("the other way", Check.told("knight 0 0 0;bishop 1 8 8").attacked(), Check.bits(0));
        due("own COLOUR", Check.told("king 1 0 0;king 1 1 1").attacked(), 0);
    }

    // ---- "Where MEN are, HOPS are kept (k 0, 1)"

    private void keeping() {
        WhiteKnights x = Check.told("king 0 0 8;king 1 2 2");
        due("back(0) of nothing", x.back(0), NOT);
        due("back(1) of nothing", x.back(1), NOT);
        due("keep(1)", x.keep(1), 0);
        due("back(0) of nothing yet", x.back(0), NOT);
        x.hop(0, 4);
        due("keep(0)", x.keep(0), 1);
        x.hop(0, 8);
        due("back(1)", x.back(1), 0);
        due("man(0, 2)", x.man(0, 2), 0);
        due("back(0)", x.back(0), 1);
        due("man(0, 2)", x.man(0, 2), 4);
        due("kept twice", x.back(0), 1);
        x.hop(0, 8);
        due("the last one counts", x.keep(0), 2);
        due("back(1)", x.back(1), 0);
        due("back(0)", x.back(0), 2);
        due("man(0, 2)", x.man(0, 2), 8);
        Check.write(x, "free");
        due("a text that is only written", x.back(1), 0);
        x.erase();
        due("a text that was erased", x.back(0), 2);
        Check.write(x, "x");
        due("a text with a FAULT", x.board(), NOT);
        due("is refused, and all is kept", x.back(1), 0);
        x.erase();
        Check.tell(x, "free");
        due("the last text", x.back(0), NOT);
        due("the last text", x.back(1), NOT);
        WhiteKnights y = new WhiteKnights();
        due("nobody is kept", y.keep(0), 0);
        due("nobody comes back", y.back(0), 0);
    }

    // ---- "SHAPE of it: 0 ALONE .., 1 ROW .., 2 RING .., 3 TREE .., 4 TAIL .., 5 ANY other"

    private void shape(String text, int kind, int square, int squares, int shape) {
        String of = "(" + kind + ", " + square + ") of " + text;
        due("SQUARES of part" + of, Integer.bitCount(Check.told(text).part(kind, square)), squares);
        due("shape" + of, Check.told(text).shape(kind, square), shape);
        due("ring" + of, Check.told(text).ring(kind, square, 0), shape == RING ? square : NOT);
    }

    private void shapes() {
        shape("board 2 2;hole 0;hole 1;hole 2", KING, 3, 1, ALONE);
        shape("board 3 3", KNIGHT, 4, 1, ALONE);
        shape("board 2 2", BISHOP, 0, 2, ROW);
        shape("board 2 2;hole 0", ROOK, 1, 3, ROW);
        shape(TEN.replace("hole 10", "hole 2;hole 6"), KNIGHT, 0, 9, ROW);
        shape("board 2 2;hole 0", KING, 1, 3, RING);
        shape("board 3 2;hole 3;hole 4;hole 5", ROOK, 1, 3, RING);
        shape("board 2 2", ROOK, 3, 4, RING);
        shape(TEN, KNIGHT, 0, 10, RING);
        shape("board 3 3;hole 0;hole 1;hole 3;hole 5;hole 7", KING, 2, 4, TREE);
        shape("board 3 3;hole 1;hole 3;hole 5;hole 7", KING, 0, 5, TREE);
        shape("board 3 4;hole 1;hole 3", KNIGHT, 0, 10, TREE);
        shape("board 2 3;hole 0;hole 2", KING, 1, 4, TAIL);
        shape("board 2 3;hole 3;hole 5", ROOK, 1, 4, TAIL);
        shape("board 3 4;hole 0;hole 1", KNIGHT, 2, 10, TAIL);
        shape("board 2 2", KING, 0, 4, ANY);
        shape("board 4 3;hole 4;hole 5;hole 6;hole 7;hole 8;hole 9;hole 10;hole 11", ROOK, 0, 4, ANY);
        // As many joins as squares, but two tails: at two squares of the ring, or both at one.
        shape("board 2 3;hole 2", ROOK, 0, 5, ANY);
        shape("board 3 3;hole 1;hole 3;hole 5;hole 6", KING, 4, 5, ANY);
        // One join more than squares: two rings that share a join, or a square.
        shape("board 2 3;hole 0;hole 4", KING, 1, 4, ANY);
        shape("board 2 3;hole 2", KING, 0, 5, ANY);
        shape("board 4 3", KING, 0, 12, ANY);
        shape("board 4 3", KNIGHT, 0, 12, ANY);
        shape("board 2 2;king 0 0 0;rook 1 1 1;knight 0 2 2;bishop 1 3 3", ROOK, 0, 4, RING);
    }

    // ---- "The i-th SQUARE (from 0, that one itself) around a RING, to the lesser one of both joined first"

    private void rings() {
        ring("board 3 2;hole 3;hole 4;hole 5", ROOK, new int[] {0, 1, 2});
        ring("board 2 2", ROOK, new int[] {0, 1, 3, 2});
        ring("board 3 3", BISHOP, new int[] {1, 3, 7, 5});
        ring("board 3 3", KNIGHT, new int[] {0, 5, 6, 1, 8, 3, 2, 7});
        ring("board 3 3;knight 0 5 6;king 1 1 1;rook 0 7 7", KNIGHT, new int[] {0, 5, 6, 1, 8, 3, 2, 7});
        ring(TEN, KNIGHT, RING_OF_TEN);
    }

    private void ring(String text, int kind, int[] around) {
        int length = around.length;
        for (int start = 0; start < length; start++) {
            WhiteKnights x = Check.told(text);
            boolean onward = around[(start + 1) % length] < around[(start + length - 1) % length];
            for (int i = 0; i < length; i++) {
                int at = (onward ? start + i : start + length - i) % length;
                due(text + ": ring(" + kind + ", " + around[start] + ", " + i + ")",
                    x.ring(kind, around[start], i), around[at]);
            }
            due(text + ": as many as there are", x.ring(kind, around[start], length), NONE);
            due(text + ": twice around", x.ring(kind, around[start], 2 * length), NONE);
            due(text + ": 2^16 times around", x.ring(kind, around[start], length << 16), NONE);
            due(text + ": MAX", x.ring(kind, around[start], MOST), NONE);
        }
    }

    // ---- "going around it one comes to GOALS in the same order as to MEN (.. one way around for both)"

    private void orders() {
        ordersOfFew();
        ordersOfThree();
        ordersOfFour();
        ordersNotNow();
        orderFromNow();
    }

    private void turned(String text, int kind, int answer) {
        due("turned(" + kind + ") of " + text, Check.told(text).turned(kind), answer);
    }

    private void ordersOfFew() {
        for (int goal : RING_OF_TEN) {
            turned(TEN + ";knight 0 4 " + goal, KNIGHT, 1);
            for (int other : RING_OF_TEN) {
                if (goal != other) turned(TEN + ";knight 0 4 " + goal + ";knight 1 7 " + other, KNIGHT, 1);
            }
        }
    }

    /** Men at three places of the ring, with every three places as goals: kept, if those go around the same way. */
    private void ordersOfThree() {
        for (int a = 0; a < 10; a++) {
            for (int b = 0; b < 10; b++) {
                for (int c = 0; c < 10; c++) {
                    if (a == b || b == c || a == c) continue;
                    boolean kept = (b - a + 10) % 10 < (c - a + 10) % 10;
                    turned(TEN + men(new int[] {8, 0, 3}, new int[] {a, b, c}), KNIGHT, kept ? 1 : 0);
                }
            }
        }
    }

    private static String men(int[] places, int[] goals) {
        StringBuilder lines = new StringBuilder();
        for (int man = 0; man < places.length; man++) {
            lines.append(";knight ").append(man % 2).append(' ').append(RING_OF_TEN[places[man]]);
            lines.append(' ').append(RING_OF_TEN[goals[man]]);
        }
        return lines.toString();
    }

    /** Four rooks on the ring 0 1 3 2, which is full: kept, if all goals are as far around. */
    private void ordersOfFour() {
        int[] place = {0, 1, 3, 2};
        for (int code = 0; code < 256; code++) {
            int[] goals = {code & 3, code >> 2 & 3, code >> 4 & 3, code >> 6 & 3};
            if (Check.bits(goals) != 15) continue;
            boolean kept = true;
            StringBuilder text = new StringBuilder("board 2 2");
            for (int man = 0; man < 4; man++) {
                text.append(";rook 0 ").append(man).append(' ').append(goals[man]);
                kept &= (place[goals[man]] - place[man] + 4) % 4 == place[goals[0]];
            }
            turned(text.toString(), ROOK, kept ? 1 : 0);
        }
    }

    // "all MEN are of it, they and their GOALS in one PART of its NET, a RING"; "NOT: as told (also without MEN)"
    private void ordersNotNow() {
        for (int kind = 0; kind < 4; kind++) {
            due("without MEN", new WhiteKnights().turned(kind), NOT);
            turned("board 2 2;king 0 0 0;bare", kind, NOT);
            if (kind != KNIGHT) turned(TEN + ";knight 0 0 5", kind, NOT);
        }
        turned("knight 0 0 5;king 0 7 7", KNIGHT, NOT);
        turned("king 0 7 7;knight 0 0 5", KNIGHT, NOT);
        turned("knight 0 0 4", KNIGHT, NOT);
        turned("knight 0 4 0", KNIGHT, NOT);
        turned("knight 0 4 4", KNIGHT, NOT);
        turned("knight 0 0 0;knight 0 4 4", KNIGHT, NOT);
        turned("knight 0 0 4;knight 0 4 0", KNIGHT, NOT);
        turned("hole 5;knight 0 0 0", KNIGHT, NOT);
        turned("bishop 0 0 0", BISHOP, NOT);
        turned("bishop 0 1 1", BISHOP, 1);
        turned("bishop 0 1 1;bishop 0 0 0", BISHOP, NOT);
        String twoRings = "hole 3;hole 4;hole 5;";
        turned(twoRings + "rook 0 0 2;rook 0 1 0", ROOK, 1);
        turned(twoRings + "rook 0 0 2;rook 0 6 7", ROOK, NOT);
        turned(twoRings + "rook 0 0 6", ROOK, NOT);
        turned(twoRings + "rook 0 0 6;rook 0 6 0", ROOK, NOT);
        turned("board 2 3;hole 0;hole 2;king 0 3 3", KING, NOT);
    }

    private void orderFromNow() {
        WhiteKnights x = Check.told("board 3 2;hole 3;hole 4;rook 0 0 0;rook 0 1 1;rook 0 2 2");
        due("a ring with one tail", x.turned(ROOK), NOT);
        Check.tell(x, "board 2 3;hole 5;king 0 0 0;king 0 1 1;king 0 2 2");
        due("ANY", x.turned(KING), NOT);
        Check.tell(x, "board 2 2;rook 0 0 0;rook 0 1 1;rook 0 3 3");
        due("at home", x.turned(ROOK), 1);
        x.hop(2, 2);
        due("one farther", x.turned(ROOK), 1);
        x.hop(1, 3);
        x.hop(0, 1);
        due("all farther", x.turned(ROOK), 1);
        Check.tell(x, "board 3 2;hole 3;hole 4;hole 5;rook 0 0 0;rook 0 1 1");
        due("two", x.turned(ROOK), 1);
        Check.tell(x, "board 2 2;hole 3;king 0 0 0;king 0 1 2;king 0 2 1");
        due("two of three change places", x.turned(KING), 0);
        Check.tell(x, "board 4 2;knight 0 1 1");
        due("a ROW", x.turned(KNIGHT), NOT);
    }
}
