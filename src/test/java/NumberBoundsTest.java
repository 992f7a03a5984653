import java.util.TreeSet;

/**
 * Each number that a call takes, at its bounds: the least and the greatest that are taken, the first on either side
 * that are refused, the least and the greatest int, and those that would be taken if upper bits were lost.
 */
public final class NumberBoundsTest {
    private static final int UNKNOWN = -2, OUTSIDE = -3;
    private static final int LEAST = Integer.MIN_VALUE, MOST = Integer.MAX_VALUE;
    private static final String BOARD = "board 4 3;hole 5;knight 0 0 11;king 1 3 8;rook 0 2 9;bishop 1 10 1";

    /** A call with one of its numbers open. */
    private interface Call {
        int of(WhiteKnights x, int number);
    }

    private final Check check = new Check();
    private String text = BOARD;

    public static void main(String[] args) {
        NumberBoundsTest test = new NumberBoundsTest();
        test.otherNumbers();
        test.kinds();
        test.squaresOfEachBoard();
        test.menOfEachNumber();
        test.newObject();
        test.check.end();
    }

    /** A call whose number is taken from least to greatest, and refused elsewhere, whereupon nothing has changed. */
    private void bounds(String name, Call call, int least, int greatest, int refusal) {
        WhiteKnights touched = Check.told(text);
        for (int number : numbersAround(least, greatest)) {
            if (number >= least && number <= greatest) {
                int answer = call.of(Check.told(text), number);
                check.due(text + ": " + name + " of " + number + " is taken, not " + answer, answer != refusal);
            } else {
                check.due(text + ": " + name + " of " + number, call.of(touched, number), refusal);
            }
        }
        Inquest.same(check, text + ": " + name + ", refused,", touched, Check.told(text));
    }

    private static TreeSet<Integer> numbersAround(int least, int greatest) {
        TreeSet<Integer> numbers = new TreeSet<>();
        for (int edge : new int[] {least, greatest, LEAST, MOST}) {
            for (int off = -2; off <= 2; off++) numbers.add(edge + off);
        }
        for (int power = 4; power < 32; power++) {
            numbers.add(least + (1 << power));
            numbers.add(greatest + (1 << power));
            numbers.add(least - (1 << power));
            numbers.add(greatest - (1 << power));
        }
        return numbers;
    }

    private void otherNumbers() {
        bounds("2: write(0, n)", (x, n) -> x.write(0, n), 1, 8, OUTSIDE);
        bounds("6: square(0, what)", (x, n) -> x.square(0, n), 0, 2, OUTSIDE);
        bounds("6: square(5, what)", (x, n) -> x.square(5, n), 0, 2, OUTSIDE);
        bounds("7: man(0, what)", (x, n) -> x.man(0, n), 0, 3, OUTSIDE);
        bounds("7: man(3, what)", (x, n) -> x.man(3, n), 0, 3, OUTSIDE);
        bounds("12: keep(k)", (x, n) -> x.keep(n), 0, 1, UNKNOWN);
        bounds("13: back(k)", (x, n) -> x.back(n), 0, 1, UNKNOWN);
        bounds("17: ring(0, 0, i)", (x, n) -> x.ring(0, 0, n), 0, MOST, OUTSIDE);
        bounds("20: way(i, 0)", (x, n) -> x.way(n, 0), 0, MOST, OUTSIDE);
        bounds("20: way(i, 1)", (x, n) -> x.way(n, 1), 0, MOST, OUTSIDE);
        bounds("20: way(0, what)", (x, n) -> x.way(0, n), 0, 1, OUTSIDE);
        bounds("22: many(n)", (x, n) -> x.many(n), 0, MOST, OUTSIDE);
        bounds("23: farthest(what)", (x, n) -> x.farthest(n), 0, 1, OUTSIDE);
        bounds("29: count(what)", (x, n) -> x.count(n), 0, 8, OUTSIDE);
    }

    private void kinds() {
        for (int m = 0; m < 4; m++) {
            int man = m;
            bounds("8: as(" + man + ", kind)", (x, n) -> x.as(man, n), 0, 6, OUTSIDE);
        }
        for (int s : new int[] {0, 5, 11}) {
            int square = s;
            bounds("14: net(kind, " + square + ")", (x, n) -> x.net(n, square), 0, 3, OUTSIDE);
            bounds("15: part(kind, " + square + ")", (x, n) -> x.part(n, square), 0, 3, OUTSIDE);
            bounds("16: shape(kind, " + square + ")", (x, n) -> x.shape(n, square), 0, 3, OUTSIDE);
            bounds("17: ring(kind, " + square + ", 0)", (x, n) -> x.ring(n, square, 0), 0, 3, OUTSIDE);
        }
        bounds("18: turned(kind)", (x, n) -> x.turned(n), 0, 3, OUTSIDE);
    }

    private void squaresOfEachBoard() {
        for (int w = 2; w <= 4; w++) {
            for (int h = 2; h <= 4 && w * h <= 12; h++) {
                text = "board " + w + " " + h + ";hole 1;king 0 0 3";
                squares(w * h - 1);
            }
        }
        text = BOARD;
        squares(11);
    }

    private void squares(int last) {
        for (int w = 0; w < 3; w++) {
            int what = w;
            bounds("6: square(square, " + what + ")", (x, n) -> x.square(n, what), 0, last, UNKNOWN);
        }
        bounds("10: hop(0, square)", (x, n) -> x.hop(0, n), 0, last, UNKNOWN);
        bounds("14: net(0, square)", (x, n) -> x.net(0, n), 0, last, UNKNOWN);
        bounds("15: part(1, square)", (x, n) -> x.part(1, n), 0, last, UNKNOWN);
        bounds("16: shape(2, square)", (x, n) -> x.shape(2, n), 0, last, UNKNOWN);
        bounds("17: ring(3, square, 0)", (x, n) -> x.ring(3, n, 0), 0, last, UNKNOWN);
        bounds("24: left(square)", (x, n) -> x.left(n), 0, last, UNKNOWN);
        bounds("25: added(square)", (x, n) -> x.added(n), 0, last, UNKNOWN);
        bounds("26: row(0, square)", (x, n) -> x.row(0, n), 0, last, UNKNOWN);
    }

    private void menOfEachNumber() {
        text = "board 4 3;hole 5";
        men(-1);
        for (int last = 0; last < 4; last++) {
            text += ";king " + last % 2 + " " + last + " " + (11 - last);
            men(last);
        }
        text = BOARD;
        men(3);
    }

    private void men(int last) {
        for (int w = 0; w < 4; w++) {
            int what = w;
            bounds("7: man(man, " + what + ")", (x, n) -> x.man(n, what), 0, last, UNKNOWN);
        }
        bounds("8: as(man, 0)", (x, n) -> x.as(n, 0), 0, last, UNKNOWN);
        bounds("9: may(man)", (x, n) -> x.may(n), 0, last, UNKNOWN);
        bounds("10: hop(man, 4)", (x, n) -> x.hop(n, 4), 0, last, UNKNOWN);
        bounds("26: row(man, 4)", (x, n) -> x.row(n, 4), 0, last, UNKNOWN);
    }

    /** "Three columns and rows, no MEN." */
    private void newObject() {
        text = "";
        squaresOfNobody();
        men(-1);
        bounds("2: write(0, n)", (x, n) -> x.write(0, n), 1, 8, OUTSIDE);
        bounds("12: keep(k)", (x, n) -> x.keep(n), 0, 1, UNKNOWN);
        bounds("13: back(k)", (x, n) -> x.back(n), 0, 1, UNKNOWN);
        bounds("18: turned(kind)", (x, n) -> x.turned(n), 0, 3, OUTSIDE);
        bounds("20: way(i, 0)", (x, n) -> x.way(n, 0), 0, MOST, OUTSIDE);
        bounds("22: many(n)", (x, n) -> x.many(n), 0, MOST, OUTSIDE);
        bounds("23: farthest(what)", (x, n) -> x.farthest(n), 0, 1, OUTSIDE);
        bounds("29: count(what)", (x, n) -> x.count(n), 0, 8, OUTSIDE);
        text = BOARD;
    }

    private void squaresOfNobody() {
        bounds("6: square(square, 0)", (x, n) -> x.square(n, 0), 0, 8, UNKNOWN);
        bounds("14: net(0, square)", (x, n) -> x.net(0, n), 0, 8, UNKNOWN);
        bounds("15: part(0, square)", (x, n) -> x.part(0, n), 0, 8, UNKNOWN);
        bounds("16: shape(0, square)", (x, n) -> x.shape(0, n), 0, 8, UNKNOWN);
        bounds("17: ring(0, square, 0)", (x, n) -> x.ring(0, n, 0), 0, 8, UNKNOWN);
        bounds("24: left(square)", (x, n) -> x.left(n), 0, 8, UNKNOWN);
        bounds("25: added(square)", (x, n) -> x.added(n), 0, 8, UNKNOWN);
    }
}
