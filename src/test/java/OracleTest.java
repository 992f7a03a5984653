import java.util.ArrayList;
import java.util.Collections;
import java.util.List;
import java.util.Random;

/** Random runs of calls on new objects: the class answers as the oracle does. Seeds are fixed. */
public final class OracleTest {
    private static final String[] KINDS = {"knight", "king", "rook", "bishop"};
    private static final String[] WORDS = {"board", "hole", "knight", "king", "rook", "bishop", "free", "turns",
        "safe", "bare", ";", " ", "0", "1", "2", "03", "4", "12", "100", "x", "K", "\u00ff", "holes"};
    private static final int[] EDGES = {Integer.MIN_VALUE, -2, -1, 12, 13, 32, 33, 255, Integer.MAX_VALUE};

    private final Random random;
    private final Check check;
    private final WhiteKnights x = new WhiteKnights();
    private final Oracle y = new Oracle();
    private final String run;

    private OracleTest(long seed, Check check) {
        random = new Random(seed);
        this.check = check;
        run = "seed " + seed + ": ";
    }

    public static void main(String[] args) {
        int runs = args.length > 0 ? Integer.parseInt(args[0]) : 250;
        int first = args.length > 1 ? Integer.parseInt(args[1]) : 1;
        Check check = new Check();
        for (int seed = first; seed < first + runs; seed++) new OracleTest(seed, check).calls();
        check.end();
    }

    private void calls() {
        int calls = 0;
        while (calls < 450) {
            calls += textCalls();
            for (int n = random.nextInt(40); n > 0; n--, calls++) anyCall(random.nextInt(40));
        }
    }

    private int textCalls() {
        int sort = random.nextInt(8);
        String text = sort == 0 ? wildText() : sort < 3 ? moreText() : fairText();
        if (random.nextInt(8) == 0 && !text.isEmpty()) text = spoiled(text);
        int calls = 0;
        for (int from = 0; from < text.length(); from += 8, calls++) {
            String piece = text.substring(from, Math.min(from + 8, text.length()));
            writeCall(Check.packed(piece), piece.length());
        }
        due("fault() of " + text, x.fault(), y.fault());
        due("board() of " + text, x.board(), y.board());
        due("erase()", x.erase(), y.erase());
        return calls + 3;
    }

    /** A text whose squares are mostly drawn without meeting one another, on 3 by 3 more often than on others. */
    private String fairText() {
        List<String> lines = new ArrayList<>();
        int squares = 9;
        if (random.nextBoolean()) {
            int w = 2 + random.nextInt(3);
            int h = 2 + random.nextInt(w == 4 ? 2 : 3);
            squares = w * h;
            lines.add("board " + w + " " + h);
        } else {
            lines.add("board 3 3");
        }
        List<Integer> ground = shuffled(squares);
        for (int n = random.nextInt(4) * random.nextInt(2); n > 0; n--) lines.add("hole " + ground.remove(0));
        List<Integer> goals = new ArrayList<>(ground);
        if (random.nextInt(3) > 0) Collections.shuffle(goals, random);
        else Collections.rotate(goals.subList(0, Math.min(3, goals.size())), 1);
        boolean oneKind = random.nextBoolean();
        String kind = KINDS[random.nextInt(oneKind ? 2 : 4) * (random.nextInt(3) == 0 ? 1 : 0)];
        int men = Math.min(ground.size(), random.nextInt(5));
        for (int n = 0; n < men; n++) {
            if (!oneKind) kind = KINDS[random.nextInt(4)];
            lines.add(kind + " " + random.nextInt(2) + " " + ground.get(n) + " " + goals.get(n));
        }
        if (random.nextBoolean()) lines.add(random.nextBoolean() ? "turns" : "safe");
        return String.join(random.nextInt(5) == 0 ? " ; " : ";", lines);
    }

    private List<Integer> shuffled(int squares) {
        List<Integer> all = new ArrayList<>();
        for (int square = 0; square < squares; square++) all.add(square);
        Collections.shuffle(all, random);
        return all;
    }

    /** Lines that go on from what was told: few of them stand. */
    private String moreText() {
        String man = KINDS[random.nextInt(4)] + " " + random.nextInt(2) + " " + number(12) + " " + number(12);
        String[] lines = {"turns", "safe", "free", "bare;" + man, man, "hole " + number(12)};
        return lines[random.nextInt(lines.length)];
    }

    private String wildText() {
        StringBuilder text = new StringBuilder();
        for (int n = random.nextInt(12); n > 0; n--) {
            text.append(WORDS[random.nextInt(WORDS.length)]).append(random.nextInt(4) == 0 ? "" : " ");
        }
        return text.toString();
    }

    private String spoiled(String text) {
        int at = random.nextInt(text.length());
        if (random.nextBoolean()) return text.substring(0, at) + text.substring(at + 1);
        return text.substring(0, at) + WORDS[random.nextInt(WORDS.length)] + text.substring(at);
    }

    private int number(int below) {
        return random.nextInt(12) == 0 ? EDGES[random.nextInt(EDGES.length)] : random.nextInt(below);
    }

    private void writeCall(long bytes, int n) {
        due("write(" + bytes + ", " + n + ")", x.write(bytes, n), y.write(bytes, n));
    }

    private void anyCall(int call) {
        int man = number(4);
        int square = number(12);
        int kind = number(4);
        int small = number(9);
        String all = " of man " + man + ", square " + square + ", kind " + kind + ", small " + small;
        switch (call) {
            case 0: writeCall(random.nextLong(), number(10)); break;
            case 1: due("erase()", x.erase(), y.erase()); break;
            case 2: due("fault()", x.fault(), y.fault()); break;
            case 3: due("board()", x.board(), y.board()); break;
            case 4: due("square" + all, x.square(square, small), y.square(square, small)); break;
            case 5: due("square" + all, x.square(square, kind), y.square(square, kind)); break;
            case 6: due("man" + all, x.man(man, kind), y.man(man, kind)); break;
            case 7: due("as" + all, x.as(man, small), y.as(man, small)); break;
            case 8: due("attacked()", x.attacked(), y.attacked()); break;
            case 9: due("keep" + all, x.keep(kind), y.keep(kind)); break;
            case 10: due("back" + all, x.back(kind), y.back(kind)); break;
            case 11: due("net" + all, x.net(kind, square), y.net(kind, square)); break;
            case 12: due("part" + all, x.part(kind, square), y.part(kind, square)); break;
            case 13: due("shape" + all, x.shape(kind, square), y.shape(kind, square)); break;
            case 14: due("ring" + all, x.ring(kind, square, small), y.ring(kind, square, small)); break;
            case 15: due("turned" + all, x.turned(kind), y.turned(kind)); break;
            case 16: due("fewest()", x.fewest(), y.fewest()); break;
            case 17: due("alike()", x.alike(), y.alike()); break;
            case 18: due("many" + all, x.many(square), y.many(square)); break;
            case 19: due("farthest" + all, x.farthest(kind), y.farthest(kind)); break;
            case 20: due("row" + all, x.row(man, square), y.row(man, square)); break;
            case 21: due("burn()", x.burn(), y.burn()); break;
            case 22: due("judge()", x.judge(), y.judge()); break;
            case 23: due("count" + all, x.count(small), y.count(small)); break;
            case 24: due("count" + all, x.count(square), y.count(square)); break;
            case 25: due("hop" + all, x.hop(man, square), y.hop(man, square)); break;
            case 26: due("may" + all, x.may(man), y.may(man)); break;
            case 27: foretold(); break;
            case 28: changed(); break;
            case 29: shapes(); break;
            default: goodHop(call % 3 == 0); break;
        }
    }

    /** A hop that may be, if there is one, also put behind the row at times. */
    private void goodHop(boolean inRow) {
        int man = random.nextInt(4);
        int free = x.may(man);
        due("may(" + man + ")", free, y.may(man));
        if (free <= 0) return;
        int square = Integer.numberOfTrailingZeros(free);
        if (random.nextBoolean()) square = 31 - Integer.numberOfLeadingZeros(free);
        String hop = man + ", " + square;
        if (inRow) due("row(" + hop + ")", x.row(man, square), y.row(man, square));
        due("hop(" + hop + ")", x.hop(man, square), y.hop(man, square));
        if (inRow) due("judge()", x.judge(), y.judge());
    }

    private void foretold() {
        int length = x.fewest();
        due("fewest()", length, y.fewest());
        for (int i : new int[] {-1, 0, 1, length / 2, length - 1, length}) {
            for (int what = -1; what < 3; what++) due("way(" + i + ", " + what + ")", x.way(i, what), y.way(i, what));
        }
    }

    private void changed() {
        for (int square = -1; square < 13; square++) {
            due("added(" + square + ")", x.added(square), y.added(square));
            if (random.nextInt(4) == 0) due("left(" + square + ")", x.left(square), y.left(square));
        }
        due("fewest()", x.fewest(), y.fewest());
    }

    private void shapes() {
        int kind = random.nextInt(4);
        due("turned(" + kind + ")", x.turned(kind), y.turned(kind));
        for (int square = 0; square < 12; square++) {
            String of = "(" + kind + ", " + square;
            due("shape" + of + ")", x.shape(kind, square), y.shape(kind, square));
            int i = random.nextInt(12);
            due("ring" + of + ", " + i + ")", x.ring(kind, square, i), y.ring(kind, square, i));
        }
    }

    private void due(String call, int got, int want) {
        check.due(run + call, got, want);
    }
}
