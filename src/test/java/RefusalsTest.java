/**
 * "Refused, and nothing changes: UNKNOWN .., OUTSIDE .., NOT .., FULL: the first of these that fits": each refusal of
 * each call, alone and where others fit too, and that nothing has changed behind it; nor behind calls that only ask.
 */
public final class RefusalsTest {
    private static final int NONE = -1, UNKNOWN = -2, OUTSIDE = -3, NOT = -4, FULL = -5;
    private static final int LEAST = Integer.MIN_VALUE, MOST = Integer.MAX_VALUE;

    private interface Call {
        int of(WhiteKnights x);
    }

    private final Check check = new Check();

    public static void main(String[] args) {
        RefusalsTest test = new RefusalsTest();
        test.stateIsFull();
        test.told();
        test.hops();
        test.nets();
        test.foretold();
        test.rows();
        test.asked();
        test.check.end();
    }

    /**
     * By TURNS, white's turn behind two HOPS; king 0 at 1, rook 1 at 7, GOALS 11 and 8, a HOLE at 5; k 0 is kept, k 1
     * is not; a full ROW of HOPS that may be, a full TEXT without a FAULT.
     */
    private static WhiteKnights state() {
        WhiteKnights x = Check.told("board 4 3;hole 5;king 0 0 11;rook 1 3 8;turns");
        x.keep(0);
        x.hop(0, 1);
        x.hop(1, 7);
        for (int n = 0; n < 3; n++) {
            x.row(0, 0);
            x.row(1, 3);
            x.row(0, 1);
            x.row(1, 7);
        }
        Check.write(x, "hole 6;safe" + " ".repeat(189));
        return x;
    }

    private void stateIsFull() {
        WhiteKnights x = state();
        int[] counts = {4, 3, 2, 32, 1, 2, 0, 12, 200};
        for (int what = 0; what < counts.length; what++) check.due("count(" + what + ")", x.count(what), counts[what]);
        check.due("judge()", x.judge(), NONE);
        check.due("fault()", x.fault(), NONE);
        check.due("man(0, 2)", x.man(0, 2), 1);
        check.due("man(1, 2)", x.man(1, 2), 7);
    }

    /** A call's answer, behind which all is as it was. */
    private void due(String name, Call call, int answer) {
        WhiteKnights x = state();
        check.due(name, call.of(x), answer);
        check.due(name + " once more", call.of(x), answer);
        Inquest.same(check, name, x, state());
    }

    private void told() {
        for (int n : new int[] {0, 9, -1, LEAST, MOST}) {
            due("2: write(0, " + n + "), FULL too", x -> x.write(0, n), OUTSIDE);
        }
        due("2: write(0, 1)", x -> x.write(0, 1), FULL);
        due("2: write(0, 8)", x -> x.write(0, 8), FULL);
        due("6: square(12, 0)", x -> x.square(12, 0), UNKNOWN);
        due("6: square(12, 3), OUTSIDE too", x -> x.square(12, 3), UNKNOWN);
        due("6: square(-1, -1), OUTSIDE too", x -> x.square(-1, -1), UNKNOWN);
        due("6: square(MIN, MAX), OUTSIDE too", x -> x.square(LEAST, MOST), UNKNOWN);
        due("6: square(11, 3)", x -> x.square(11, 3), OUTSIDE);
        due("6: square(0, -1)", x -> x.square(0, -1), OUTSIDE);
        due("7: man(2, 0)", x -> x.man(2, 0), UNKNOWN);
        due("7: man(2, 4), OUTSIDE too", x -> x.man(2, 4), UNKNOWN);
        due("7: man(-1, -1), OUTSIDE too", x -> x.man(-1, -1), UNKNOWN);
        due("7: man(MAX, MIN), OUTSIDE too", x -> x.man(MOST, LEAST), UNKNOWN);
        due("7: man(1, 4)", x -> x.man(1, 4), OUTSIDE);
        due("7: man(0, -1)", x -> x.man(0, -1), OUTSIDE);
        due("8: as(2, 0)", x -> x.as(2, 0), UNKNOWN);
        due("8: as(2, 7), OUTSIDE too", x -> x.as(2, 7), UNKNOWN);
        due("8: as(-1, -1), OUTSIDE too", x -> x.as(-1, -1), UNKNOWN);
        due("8: as(2, 6), none such", x -> x.as(2, 6), UNKNOWN);
        due("8: as(0, 7), none such", x -> x.as(0, 7), OUTSIDE);
        due("8: as(1, -1), none such", x -> x.as(1, -1), OUTSIDE);
        for (int kind : new int[] {2, 4, 5, 6}) due("8: a king as " + kind, x -> x.as(0, kind), NOT);
        for (int kind : new int[] {1, 2, 3, 6}) due("8: a rook as " + kind, x -> x.as(1, kind), NOT);
    }

    private void hops() {
        for (int man : new int[] {-1, 2, 3, 4, LEAST, MOST}) {
            due("9: may(" + man + ")", x -> x.may(man), UNKNOWN);
            due("10: hop(" + man + ", 0)", x -> x.hop(man, 0), UNKNOWN);
            due("10: hop(" + man + ", 5), a HOLE", x -> x.hop(man, 5), UNKNOWN);
            due("10: hop(" + man + ", 12)", x -> x.hop(man, 12), UNKNOWN);
        }
        for (int square : new int[] {-1, 12, LEAST, MOST}) {
            due("10: hop(0, " + square + ")", x -> x.hop(0, square), UNKNOWN);
            due("10: hop(1, " + square + "), not his turn", x -> x.hop(1, square), UNKNOWN);
        }
        due("10: onto a HOLE", x -> x.hop(0, 5), NOT);
        due("10: where he is", x -> x.hop(0, 1), NOT);
        due("10: too far off", x -> x.hop(0, 11), NOT);
        due("10: onto a MAN", x -> x.hop(0, 7), NOT);
        due("10: not his turn", x -> x.hop(1, 3), NOT);
        for (int k : new int[] {-1, 2, LEAST, MOST}) {
            due("12: keep(" + k + ")", x -> x.keep(k), UNKNOWN);
            due("13: back(" + k + "), nothing kept", x -> x.back(k), UNKNOWN);
        }
        due("13: back(1)", x -> x.back(1), NOT);
    }

    private void nets() {
        for (int kind : new int[] {-1, 0, 3, 4, LEAST, MOST}) {
            for (int square : new int[] {-1, 12, LEAST, MOST}) {
                String of = "(" + kind + ", " + square + ")";
                due("14: net" + of, x -> x.net(kind, square), UNKNOWN);
                due("15: part" + of, x -> x.part(kind, square), UNKNOWN);
                due("16: shape" + of, x -> x.shape(kind, square), UNKNOWN);
                due("17: ring" + of, x -> x.ring(kind, square, 0), UNKNOWN);
                due("17: ring, i -1" + of, x -> x.ring(kind, square, -1), UNKNOWN);
            }
        }
        for (int kind : new int[] {-1, 4, LEAST, MOST}) {
            for (int square : new int[] {0, 5, 11}) {
                String of = "(" + kind + ", " + square + ")";
                due("14: net" + of, x -> x.net(kind, square), OUTSIDE);
                due("15: part" + of, x -> x.part(kind, square), OUTSIDE);
                due("16: shape" + of, x -> x.shape(kind, square), OUTSIDE);
                due("17: ring" + of, x -> x.ring(kind, square, 0), OUTSIDE);
                due("17: ring, i -1" + of, x -> x.ring(kind, square, -1), OUTSIDE);
            }
            due("18: turned(" + kind + "), NOT too", x -> x.turned(kind), OUTSIDE);
        }
        netsNotNow();
    }

    private void netsNotNow() {
        for (int kind = 0; kind < 4; kind++) {
            int k = kind;
            due("16: shape(" + kind + ") of a HOLE", x -> x.shape(k, 5), NOT);
            due("17: ring(" + kind + ") of a HOLE", x -> x.ring(k, 5, 0), NOT);
            due("17: ring(" + kind + ") of a HOLE, far around", x -> x.ring(k, 5, MOST), NOT);
            due("17: ring(" + kind + ") of none", x -> x.ring(k, 1, 0), NOT);
            due("17: ring(" + kind + ") of none, far around", x -> x.ring(k, 1, 12), NOT);
            due("17: ring(" + kind + "), i -1", x -> x.ring(k, 1, -1), OUTSIDE);
            due("17: ring(" + kind + ") of a HOLE, i MIN", x -> x.ring(k, 5, LEAST), OUTSIDE);
            due("18: turned(" + kind + ")", x -> x.turned(k), NOT);
        }
    }

    private void foretold() {
        for (int i : new int[] {-1, LEAST}) {
            for (int what : new int[] {-1, 0, 1, 2}) {
                due("20: way(" + i + ", " + what + ")", x -> x.way(i, what), OUTSIDE);
            }
        }
        for (int what : new int[] {-1, 2, LEAST, MOST}) {
            due("20: way(0, " + what + ")", x -> x.way(0, what), OUTSIDE);
            due("20: way(MAX, " + what + "), NONE too", x -> x.way(MOST, what), OUTSIDE);
            due("23: farthest(" + what + ")", x -> x.farthest(what), OUTSIDE);
        }
        due("22: many(-1)", x -> x.many(-1), OUTSIDE);
        due("22: many(MIN)", x -> x.many(LEAST), OUTSIDE);
        for (int square : new int[] {-1, 12, LEAST, MOST}) {
            due("24: left(" + square + ")", x -> x.left(square), UNKNOWN);
            due("25: added(" + square + ")", x -> x.added(square), UNKNOWN);
        }
        due("24: left(5), a HOLE", x -> x.left(5), NOT);
        due("24: left(1), a MAN", x -> x.left(1), NOT);
        due("24: left(7), a MAN", x -> x.left(7), NOT);
        due("24: left(11), a GOAL", x -> x.left(11), NOT);
        due("24: left(8), a GOAL", x -> x.left(8), NOT);
        for (int square : new int[] {0, 1, 4, 6, 7, 8, 11}) {
            due("25: added(" + square + "), no HOLE", x -> x.added(square), NOT);
        }
    }

    private void rows() {
        for (int bad : new int[] {-1, 12, LEAST, MOST}) {
            due("26: row(" + bad + ", 0), FULL too", x -> x.row(bad, 0), UNKNOWN);
            due("26: row(0, " + bad + "), FULL too", x -> x.row(0, bad), UNKNOWN);
            due("26: row(" + bad + ", " + bad + "), FULL too", x -> x.row(bad, bad), UNKNOWN);
        }
        due("26: row(2, 0), FULL too", x -> x.row(2, 0), UNKNOWN);
        due("26: row(1, 11)", x -> x.row(1, 11), FULL);
        due("26: row(0, 0)", x -> x.row(0, 0), FULL);
        for (int what : new int[] {-1, 9, LEAST, MOST}) due("29: count(" + what + ")", x -> x.count(what), OUTSIDE);
    }

    /** Calls that answer and change nothing; "FORETOLD from now (nothing changes)". */
    private void asked() {
        due("4: fault()", x -> x.fault(), NONE);
        due("6: square(7, 1)", x -> x.square(7, 1), 1);
        due("7: man(1, 3)", x -> x.man(1, 3), 8);
        due("8: as(1, 5)", x -> x.as(1, 5), Check.bits(3, 6, 11));
        due("9: may(0)", x -> x.may(0), Check.bits(0, 2, 4, 6));
        due("9: may(1)", x -> x.may(1), 0);
        due("11: attacked()", x -> x.attacked(), 0);
        due("14: net(2, 7)", x -> x.net(2, 7), Check.bits(3, 6, 11));
        due("15: part(3, 0)", x -> x.part(3, 0), 1);
        due("16: shape(3, 0)", x -> x.shape(3, 0), 0);
        due("19: fewest()", x -> x.fewest(), state().fewest());
        due("20: way(0, 0)", x -> x.way(0, 0), 0);
        due("20: way(MAX, 1)", x -> x.way(MOST, 1), NONE);
        due("21: alike()", x -> x.alike(), state().fewest());
        due("22: many(0)", x -> x.many(0), 1);
        due("22: many(1)", x -> x.many(1), 4);
        due("22: many(MAX)", x -> x.many(MOST), 0);
        due("23: farthest(1)", x -> x.farthest(1), state().farthest(1));
        for (int square : new int[] {0, 2, 3, 4, 6, 9, 10}) {
            int answer = state().left(square);
            check.due("24: left(" + square + ") is answered", answer > UNKNOWN);
            due("24: left(" + square + ")", x -> x.left(square), answer);
        }
        due("25: added(5)", x -> x.added(5), state().added(5));
        due("28: judge()", x -> x.judge(), NONE);
        due("29: count(3)", x -> x.count(3), 32);
    }
}
