/** Counts answers that are not as due, and writes texts into an object eight bytes a call. */
final class Check {
    private int wrong;

    void due(String call, long got, long want) {
        if (got == want) return;
        wrong++;
        System.out.println(call + " answered " + got + ", due is " + want);
    }

    void due(String call, boolean holds) {
        due(call, holds ? 1 : 0, 1);
    }

    /** Ends the test's run with exit code 1 if an answer was wrong. */
    void end() {
        if (wrong != 0) {
            System.out.println(wrong + " answers are not as due");
            System.exit(1);
        }
    }

    static void write(WhiteKnights x, String text) {
        for (int from = 0; from < text.length(); from += 8) {
            String piece = text.substring(from, Math.min(from + 8, text.length()));
            x.write(packed(piece), piece.length());
        }
    }

    static long packed(String piece) {
        long bytes = 0;
        for (int i = 0; i < piece.length(); i++) bytes |= (long) piece.charAt(i) << 8 * i;
        return bytes;
    }

    static WhiteKnights told(String text) {
        WhiteKnights x = new WhiteKnights();
        tell(x, text);
        return x;
    }

    static int tell(WhiteKnights x, String text) {
        write(x, text);
        return x.board();
    }

    static int bits(int... squares) {
        int bits = 0;
        for (int square : squares) bits |= 1 << square;
        return bits;
    }
}
