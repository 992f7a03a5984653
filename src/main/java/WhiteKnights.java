import java.util.Arrays;

/** Men of kinds and colours that hop on a small board with holes, each to a goal of his own. */
public final class WhiteKnights {
    public static final int NONE = -1, UNKNOWN = -2, OUTSIDE = -3, NOT = -4, FULL = -5;

    private static final int MOST_SQUARES = 12;
    private static final int MOST_MEN = 4;
    private static final int MOST_BYTES = 200;
    private static final int MOST_BYTES_A_CALL = 8;
    private static final int MOST_LINES = 12;
    private static final int MOST_HOPS = 9999;
    private static final int MOST_ROW = 12;
    private static final int KEEPS = 2;
    private static final int LAST_KIND = 3;

    private static final int FREE = 0, TURNS = 1, SAFE = 2;
    private static final int ALONE = 0, ROW = 1, RING = 2, TREE = 3, TAIL = 4, ANY = 5;

    // KINDS over one another: what stands over each, and where the four kinds of men are among them.
    private static final int LAST_AS = 6;
    private static final int[] OVER = {NONE, 0, 1, 1, 0, 4, 4};
    private static final int[] AS_KIND = {2, 3, 5, 6};

    private final Setup told = new Setup();
    private final Text text = new Text();
    private final Reader reader = new Reader(text);
    private final Grid grid = new Grid();
    private final Laws laws = new Laws(told, grid);
    private final Net web = new Net(grid);
    private final Search search = new Search(told, laws);
    private final int[] keptPositions = new int[KEEPS];
    private final int[] keptHops = new int[KEEPS];
    private final boolean[] kept = new boolean[KEEPS];
    private final int[] rowMen = new int[MOST_ROW];
    private final int[] rowSquares = new int[MOST_ROW];
    private int rowLength;
    private int position;
    private int hops;

    public WhiteKnights() {
        grid.lay(told.columns, told.rows);
    }

    // ---- what is told

    public int write(long bytes, int n) {
        if (n < 1 || n > MOST_BYTES_A_CALL) return OUTSIDE;
        if (text.length + n > MOST_BYTES) return FULL;
        for (int i = 0; i < n; i++) text.append((int) (bytes >> 8 * i & 255));
        return text.length;
    }

    public int erase() {
        int had = text.length;
        text.length = 0;
        return had;
    }

    public int fault() {
        reader.read(told);
        return reader.faultAt;
    }

    public int board() {
        reader.read(told);
        if (reader.faultAt != NONE) return NOT;
        told.copy(reader.draft);
        text.length = 0;
        beginAnew();
        return reader.lines;
    }

    public int square(int square, int what) {
        if (noSquare(square)) return UNKNOWN;
        switch (what) {
            case 0: return bit(told.holes, square);
            case 1: return told.manOf(position, square);
            case 2: return told.manOf(told.goals, square);
            default: return OUTSIDE;
        }
    }

    public int man(int man, int what) {
        if (noMan(man)) return UNKNOWN;
        switch (what) {
            case 0: return told.kinds[man];
            case 1: return told.colours[man];
            case 2: return placeOf(man, position);
            case 3: return placeOf(man, told.goals);
            default: return OUTSIDE;
        }
    }

    public int as(int man, int kind) {
        if (noMan(man)) return UNKNOWN;
        if (kind < 0 || kind > LAST_AS) return OUTSIDE;
        if (!isSuch(told.kinds[man], kind)) return NOT;
        return grid.reached(told.kinds[man], placeOf(man, position), told.holes, told.taken(position));
    }

    // ---- hops

    public int may(int man) {
        if (noMan(man)) return UNKNOWN;
        return laws.allowed(man, position, hops, told.holes);
    }

    public int hop(int man, int square) {
        if (noMan(man) || noSquare(square)) return UNKNOWN;
        if (bit(laws.allowed(man, position, hops, told.holes), square) == 0) return NOT;
        if (hops >= MOST_HOPS) return FULL;
        position = moved(position, man, square);
        hops++;
        return hops;
    }

    public int attacked() {
        return laws.attackedMen(position, told.holes);
    }

    public int keep(int k) {
        if (k < 0 || k >= KEEPS) return UNKNOWN;
        keptPositions[k] = position;
        keptHops[k] = hops;
        kept[k] = true;
        return hops;
    }

    public int back(int k) {
        if (k < 0 || k >= KEEPS) return UNKNOWN;
        if (!kept[k]) return NOT;
        position = keptPositions[k];
        hops = keptHops[k];
        return hops;
    }

    // ---- nets

    public int net(int kind, int square) {
        if (noSquare(square)) return UNKNOWN;
        if (noKind(kind)) return OUTSIDE;
        web.knot(kind, told.holes);
        return web.joined[square];
    }

    public int part(int kind, int square) {
        if (noSquare(square)) return UNKNOWN;
        if (noKind(kind)) return OUTSIDE;
        web.knot(kind, told.holes);
        return web.partAt(square);
    }

    public int shape(int kind, int square) {
        if (noSquare(square)) return UNKNOWN;
        if (noKind(kind)) return OUTSIDE;
        if (bit(told.holes, square) == 1) return NOT;
        web.knot(kind, told.holes);
        return web.shapeOf(web.partAt(square));
    }

    public int ring(int kind, int square, int i) {
        if (noSquare(square)) return UNKNOWN;
        if (noKind(kind) || i < 0) return OUTSIDE;
        web.knot(kind, told.holes);
        int part = web.partAt(square);
        if (web.shapeOf(part) != RING) return NOT;
        if (i >= Integer.bitCount(part)) return NONE;
        return web.around(square, i);
    }

    public int turned(int kind) {
        if (noKind(kind)) return OUTSIDE;
        if (told.men == 0 || !allAre(kind)) return NOT;
        web.knot(kind, told.holes);
        int part = web.partAt(placeOf(0, position));
        int needed = told.taken(position) | told.taken(told.goals);
        if (web.shapeOf(part) != RING || (needed & ~part) != 0) return NOT;
        return orderIsKept(Integer.bitCount(part)) ? 1 : 0;
    }

    // ---- foretold

    public int fewest() {
        search.explore(position, hops, told.holes);
        return search.depthOf(search.firstHome());
    }

    public int way(int i, int what) {
        if (i < 0 || what < 0 || what > 1) return OUTSIDE;
        search.explore(position, hops, told.holes);
        return search.hopTowards(search.firstHome(), i, what);
    }

    public int alike() {
        search.explore(position, hops, told.holes);
        return search.depthOf(search.firstHomeAlike());
    }

    public int many(int n) {
        if (n < 0) return OUTSIDE;
        search.explore(position, hops, told.holes);
        return search.howMany(n);
    }

    public int farthest(int what) {
        if (what < 0 || what > 1) return OUTSIDE;
        search.explore(position, hops, told.holes);
        int greatest = search.greatestDepth();
        return what == 0 ? greatest : search.howMany(greatest);
    }

    public int left(int square) {
        if (noSquare(square)) return UNKNOWN;
        int used = told.holes | told.taken(position) | told.taken(told.goals);
        if (bit(used, square) == 1) return NOT;
        search.explore(position, hops, told.holes | 1 << square);
        return search.depthOf(search.firstHome());
    }

    public int added(int square) {
        if (noSquare(square)) return UNKNOWN;
        if (bit(told.holes, square) == 0) return NOT;
        search.explore(position, hops, told.holes & ~(1 << square));
        return search.depthOf(search.firstHome());
    }

    // ---- rows

    public int row(int man, int square) {
        if (noMan(man) || noSquare(square)) return UNKNOWN;
        if (rowLength >= MOST_ROW) return FULL;
        rowMen[rowLength] = man;
        rowSquares[rowLength] = square;
        rowLength++;
        return rowLength;
    }

    public int burn() {
        int had = rowLength;
        rowLength = 0;
        return had;
    }

    public int judge() {
        int then = position;
        for (int i = 0; i < rowLength && i < MOST_ROW; i++) {
            int free = laws.allowed(rowMen[i], then, hops + i, told.holes);
            if (bit(free, rowSquares[i]) == 0) return i;
            then = moved(then, rowMen[i], rowSquares[i]);
        }
        return NONE;
    }

    public int count(int what) {
        switch (what) {
            case 0: return told.columns;
            case 1: return told.rows;
            case 2: return told.men;
            case 3: return told.holes;
            case 4: return told.law;
            case 5: return hops;
            case 6: return menAtHome();
            case 7: return rowLength;
            case 8: return text.length;
            default: return OUTSIDE;
        }
    }

    // ---- what the calls share

    private boolean noSquare(int square) {
        return square < 0 || square >= told.squares();
    }

    private boolean noMan(int man) {
        return man < 0 || man >= told.men;
    }

    private static boolean noKind(int kind) {
        return kind < 0 || kind > LAST_KIND;
    }

    private static int bit(int bits, int at) {
        return bits >> at & 1;
    }

    // A position holds the men's squares in one int, four bits a man, so that it can be kept and found again.

    private static int placeOf(int man, int squares) {
        return squares >> 4 * man & 15;
    }

    private static int moved(int squares, int man, int square) {
        return squares & ~(15 << 4 * man) | square << 4 * man;
    }

    private void beginAnew() {
        grid.lay(told.columns, told.rows);
        search.forget();
        position = told.starts;
        hops = 0;
        rowLength = 0;
        for (int k = 0; k < KEEPS; k++) kept[k] = false;
    }

    private static boolean isSuch(int kind, int as) {
        if (noKind(kind)) return false;
        int at = AS_KIND[kind];
        for (int n = 0; n <= LAST_AS && at >= 0; n++) {
            if (at == as) return true;
            at = OVER[at];
        }
        return false;
    }

    private boolean allAre(int kind) {
        for (int man = 0; man < told.men; man++) {
            if (told.kinds[man] != kind) return false;
        }
        return true;
    }

    /** Whether any two men come, counted from man 0 around the ring, in the same order as their goals from his goal. */
    private boolean orderIsKept(int length) {
        int start = placeOf(0, position);
        for (int man = 1; man < told.men; man++) {
            for (int other = 1; other < man; other++) {
                boolean manFirst = stepsAround(start, man, position, length)
                    < stepsAround(start, other, position, length);
                boolean goalFirst = stepsAround(start, man, told.goals, length)
                    < stepsAround(start, other, told.goals, length);
                if (manFirst != goalFirst) return false;
            }
        }
        return true;
    }

    /** How far a man's square lies behind that of man 0, the one way around that begins at a square. */
    private int stepsAround(int start, int man, int squares, int length) {
        int steps = web.stepsTo(start, placeOf(man, squares)) - web.stepsTo(start, placeOf(0, squares));
        return steps < 0 ? steps + length : steps;
    }

    private int menAtHome() {
        int bits = 0;
        for (int man = 0; man < told.men; man++) {
            if (placeOf(man, position) == placeOf(man, told.goals)) bits |= 1 << man;
        }
        return bits;
    }

    /** All that texts have told: the board, its holes, the men with their first squares and goals, the law. */
    private static final class Setup {
        int columns;
        int rows;
        int holes;
        int law;
        int men;
        int starts;
        int goals;
        final int[] kinds = new int[MOST_MEN];
        final int[] colours = new int[MOST_MEN];

        Setup() {
            columns = 3;
            rows = 3;
        }

        void lay(int newColumns, int newRows) {
            columns = newColumns;
            rows = newRows;
            holes = 0;
            law = FREE;
            takeMenAway();
        }

        void takeMenAway() {
            men = 0;
            starts = 0;
            goals = 0;
        }

        void addMan(int kind, int colour, int start, int goal) {
            if (men >= MOST_MEN) return;
            kinds[men] = kind;
            colours[men] = colour;
            starts = moved(starts, men, start);
            goals = moved(goals, men, goal);
            men++;
        }

        void copy(Setup other) {
            columns = other.columns;
            rows = other.rows;
            holes = other.holes;
            law = other.law;
            men = other.men;
            starts = other.starts;
            goals = other.goals;
            System.arraycopy(other.kinds, 0, kinds, 0, MOST_MEN);
            System.arraycopy(other.colours, 0, colours, 0, MOST_MEN);
        }

        int squares() {
            return columns * rows;
        }

        int manOf(int squares, int square) {
            for (int man = 0; man < men; man++) {
                if (placeOf(man, squares) == square) return man;
            }
            return NONE;
        }

        int taken(int squares) {
            int bits = 0;
            for (int man = 0; man < men; man++) bits |= 1 << placeOf(man, squares);
            return bits;
        }
    }

    /** The text's bytes, and the token of it that was come to last. */
    private static final class Text {
        private static final int BLANK = 32;
        private static final int MOST_DIGITS = 2;

        final int[] bytes = new int[MOST_BYTES];
        int length;
        int begin;
        int end;

        void append(int value) {
            if (length >= MOST_BYTES) return;
            bytes[length] = value;
            length++;
        }

        void rewind() {
            begin = 0;
            end = 0;
        }

        void next() {
            begin = end;
            while (begin < length && bytes[begin] == BLANK) begin++;
            end = begin;
            if (begin >= length) return;
            end++;
            while (end < length && joins(bytes[begin], bytes[end])) end++;
        }

        private static boolean joins(int first, int more) {
            return isLetter(first) && isLetter(more) || isDigit(first) && isDigit(more);
        }

        private static boolean isLetter(int value) {
            return value >= 'a' && value <= 'z';
        }

        private static boolean isDigit(int value) {
            return value >= '0' && value <= '9';
        }

        boolean isOver() {
            return begin >= length;
        }

        boolean spells(String word) {
            if (end - begin != word.length()) return false;
            for (int i = 0; i < word.length(); i++) {
                if (bytes[begin + i] != word.charAt(i)) return false;
            }
            return true;
        }

        /** The token's number; NONE, if it is none of one or two digits. */
        int number() {
            if (isOver() || !isDigit(bytes[begin]) || end - begin > MOST_DIGITS) return NONE;
            int value = 0;
            for (int i = begin; i < end; i++) value = value * 10 + bytes[i] - '0';
            return value;
        }
    }

    /** Does the text's lines, one behind another, on a draft of what was told, up to the first fault. */
    private static final class Reader {
        final Setup draft = new Setup();
        int faultAt;
        int lines;
        private final Text text;

        Reader(Text text) {
            this.text = text;
        }

        void read(Setup told) {
            draft.copy(told);
            faultAt = NONE;
            lines = 0;
            text.rewind();
            boolean more = true;
            while (more && lines < MOST_LINES) {
                text.next();
                readLine();
                lines++;
                more = readBehindLine();
            }
        }

        private boolean readBehindLine() {
            if (faultAt != NONE) return false;
            text.next();
            if (text.isOver()) return false;
            refuseIf(!text.spells(";") || lines >= MOST_LINES);
            return faultAt == NONE;
        }

        private void readLine() {
            if (text.spells("board")) readSize();
            else if (text.spells("hole")) readHole();
            else if (text.spells("knight")) readMan(0);
            else if (text.spells("king")) readMan(1);
            else if (text.spells("rook")) readMan(2);
            else if (text.spells("bishop")) readMan(3);
            else if (text.spells("free")) draft.law = FREE;
            else if (text.spells("turns")) draft.law = TURNS;
            else if (text.spells("safe")) draft.law = SAFE;
            else if (text.spells("bare")) draft.takeMenAway();
            else refuseIf(true);
        }

        private void readSize() {
            int columns = readNumber(2, 4);
            int rows = readNumber(2, 4);
            refuseIf(columns * rows > MOST_SQUARES);
            if (faultAt == NONE) draft.lay(columns, rows);
        }

        private void readHole() {
            int square = readNumber(0, draft.squares() - 1);
            refuseIf(isHole(square));
            refuseIf(draft.manOf(draft.starts, square) != NONE);
            refuseIf(draft.manOf(draft.goals, square) != NONE);
            if (faultAt == NONE) draft.holes |= 1 << square;
        }

        private void readMan(int kind) {
            refuseIf(draft.men >= MOST_MEN);
            int colour = readNumber(0, 1);
            int start = readNumber(0, draft.squares() - 1);
            refuseIf(isHole(start) || draft.manOf(draft.starts, start) != NONE);
            int goal = readNumber(0, draft.squares() - 1);
            refuseIf(isHole(goal) || draft.manOf(draft.goals, goal) != NONE);
            if (faultAt == NONE) draft.addMan(kind, colour, start, goal);
        }

        private boolean isHole(int square) {
            return bit(draft.holes, square) == 1;
        }

        private int readNumber(int least, int most) {
            if (faultAt != NONE) return least;
            text.next();
            int value = text.number();
            refuseIf(value < least || value > most);
            return value;
        }

        /** The first fault stays: what comes behind it is not looked at. */
        private void refuseIf(boolean wrong) {
            if (wrong && faultAt == NONE) faultAt = text.begin;
        }
    }

    /** Which squares a man of a kind reaches on a board of some size. */
    private static final class Grid {
        private static final int DIRECTIONS = 16;
        // A knight's eight leaps, then four straight steps, then four slanting ones.
        private static final int[] ACROSS = {1, 2, 2, 1, -1, -2, -2, -1, 0, 1, 0, -1, 1, 1, -1, -1};
        private static final int[] DOWN = {-2, -1, 1, 2, 2, 1, -1, -2, -1, 0, 1, 0, -1, 1, 1, -1};
        // By kind: knight, king, rook, bishop.
        private static final int[] FIRST_DIRECTION = {0, 8, 8, 12};
        private static final int[] BEHIND_DIRECTION = {8, 16, 12, 16};
        private static final int[] MOST_STEPS = {1, 1, 3, 3};

        private final int[] steps = new int[DIRECTIONS * MOST_SQUARES];

        void lay(int columns, int rows) {
            Arrays.fill(steps, NONE);
            if (columns < 1) return;
            for (int square = 0; square < columns * rows && square < MOST_SQUARES; square++) {
                for (int d = 0; d < DIRECTIONS; d++) {
                    int column = square % columns + ACROSS[d];
                    int row = square / columns + DOWN[d];
                    boolean inside = column >= 0 && column < columns && row >= 0 && row < rows;
                    if (inside) steps[d * MOST_SQUARES + square] = row * columns + column;
                }
            }
        }

        int reached(int kind, int square, int holes, int men) {
            if (noKind(kind) || square < 0 || square >= MOST_SQUARES) return 0;
            int bits = 0;
            for (int d = FIRST_DIRECTION[kind]; d < BEHIND_DIRECTION[kind]; d++) {
                int row = d * MOST_SQUARES;
                int at = steps[row + square];
                for (int n = 0; n < MOST_STEPS[kind] && at >= 0 && bit(holes, at) == 0; n++) {
                    bits |= 1 << at;
                    at = bit(men, at) == 1 ? NONE : steps[row + at];
                }
            }
            return bits;
        }
    }

    /** Who may hop where, and who is attacked, in any position. */
    private static final class Laws {
        private final Setup told;
        private final Grid grid;

        Laws(Setup told, Grid grid) {
            this.told = told;
            this.grid = grid;
        }

        int allowed(int man, int position, int hops, int holes) {
            int open = openTo(man, position, hops, holes);
            int squares = 0;
            for (int square = 0; square < MOST_SQUARES; square++) {
                if (bit(open, square) == 1 && mayStand(moved(position, man, square), holes)) squares |= 1 << square;
            }
            return squares;
        }

        /** Squares to which a man may hop, if the position behind the hop may stand. */
        int openTo(int man, int position, int hops, int holes) {
            if (man < 0 || man >= MOST_MEN) return 0;
            if (told.law == TURNS && told.colours[man] != (hops & 1)) return 0;
            int men = told.taken(position);
            return grid.reached(told.kinds[man], placeOf(man, position), holes, men) & ~men;
        }

        boolean mayStand(int position, int holes) {
            return told.law != SAFE || attackedMen(position, holes) == 0;
        }

        int attackedMen(int position, int holes) {
            int men = told.taken(position);
            int byWhite = 0;
            int byBlack = 0;
            for (int man = 0; man < told.men; man++) {
                int bits = grid.reached(told.kinds[man], placeOf(man, position), holes, men);
                if (told.colours[man] == 0) byWhite |= bits;
                else byBlack |= bits;
            }
            int attackedOnes = 0;
            for (int man = 0; man < told.men; man++) {
                int byOthers = told.colours[man] == 0 ? byBlack : byWhite;
                attackedOnes |= bit(byOthers, placeOf(man, position)) << man;
            }
            return attackedOnes;
        }
    }

    /** The net that one kind makes of the squares that are no holes. */
    private static final class Net {
        final int[] joined = new int[MOST_SQUARES];
        private final Grid grid;
        private int holes;

        Net(Grid grid) {
            this.grid = grid;
        }

        void knot(int kind, int newHoles) {
            holes = newHoles;
            for (int square = 0; square < MOST_SQUARES; square++) {
                joined[square] = bit(holes, square) == 1 ? 0 : grid.reached(kind, square, holes, 0);
            }
        }

        int partAt(int square) {
            if (bit(holes, square) == 1) return 0;
            int part = 1 << square;
            // Each round comes at least one join farther, and no square is more joins off than there are squares.
            for (int round = 1; round < MOST_SQUARES; round++) {
                int wider = part;
                for (int at = 0; at < MOST_SQUARES; at++) {
                    if (bit(part, at) == 1) wider |= joined[at];
                }
                part = wider;
            }
            return part;
        }

        int shapeOf(int part) {
            int squares = Integer.bitCount(part);
            int ends = squaresWith(1, part);
            int twos = squaresWith(2, part);
            int joins = joinsOf(part);
            if (squares == 1) return ALONE;
            if (joins == squares - 1) return ends + twos == squares ? ROW : TREE;
            if (joins != squares) return ANY;
            if (twos == squares) return squares == 0 ? ANY : RING;
            boolean oneTail = ends == 1 && squaresWith(3, part) == 1 && twos == squares - 2;
            return oneTail ? TAIL : ANY;
        }

        private int joinsOf(int part) {
            int sum = 0;
            for (int square = 0; square < MOST_SQUARES; square++) {
                if (bit(part, square) == 1) sum += Integer.bitCount(joined[square]);
            }
            return sum / 2;
        }

        private int squaresWith(int joins, int part) {
            int sum = 0;
            for (int square = 0; square < MOST_SQUARES; square++) {
                if (bit(part, square) == 1 && Integer.bitCount(joined[square]) == joins) sum++;
            }
            return sum;
        }

        /** The square some steps around a ring, to the lesser one of both joined first. */
        int around(int square, int steps) {
            int before = 0;
            int at = square;
            for (int n = 0; n < steps; n++) {
                if (at < 0 || at >= MOST_SQUARES) return NONE;
                int onward = joined[at] & ~before;
                before = 1 << at;
                at = Integer.numberOfTrailingZeros(onward);
            }
            return at;
        }

        int stepsTo(int start, int square) {
            for (int steps = 0; steps < MOST_SQUARES; steps++) {
                if (around(start, steps) == square) return steps;
            }
            return NONE;
        }
    }

    /**
     * All positions to which hops lead from one, nearest first. Those equally far stand in the order of their first
     * rows of hops, as each is found from the first one that leads to it: so parents tell the first way.
     */
    private static final class Search {
        private static final int MOST_POSITIONS = 2 * 12 * 11 * 10 * 9;
        private static final int TURN_BIT = 4 * MOST_MEN;
        private static final int SQUARES_MASK = (1 << TURN_BIT) - 1;
        private static final int SEEN_WORDS = 1 << TURN_BIT + 1 - 5;

        private final Setup told;
        private final Laws laws;
        private final int[] seen = new int[SEEN_WORDS];
        private final int[] codes = new int[MOST_POSITIONS];
        private final int[] parents = new int[MOST_POSITIONS];
        private final int[] depths = new int[MOST_POSITIONS];
        private int size;
        private int exploredHoles;

        Search(Setup told, Laws laws) {
            this.told = told;
            this.laws = laws;
        }

        void forget() {
            size = 0;
        }

        void explore(int position, int hops, int holes) {
            int first = codeOf(position, hops);
            if (size > 0 && codes[0] == first && exploredHoles == holes) return;
            Arrays.fill(seen, 0);
            size = 0;
            exploredHoles = holes;
            if (isNew(first)) add(first, NONE, 0);
            for (int i = 0; i < size && i < MOST_POSITIONS; i++) {
                for (int man = 0; man < told.men; man++) {
                    int then = hops + depths[i];
                    addHops(i, man, laws.openTo(man, codes[i] & SQUARES_MASK, then, holes), then + 1);
                }
            }
        }

        /** A position and, by turns, whose turn it is. */
        private int codeOf(int position, int hops) {
            return told.law == TURNS ? position | (hops & 1) << TURN_BIT : position;
        }

        private void addHops(int i, int man, int squares, int hops) {
            for (int square = 0; square < MOST_SQUARES; square++) {
                if (bit(squares, square) == 0) continue;
                int position = moved(codes[i] & SQUARES_MASK, man, square);
                int code = codeOf(position, hops);
                // Whether a position may stand is dear to tell: it is asked but once of each.
                if (isNew(code) && laws.mayStand(position, exploredHoles)) add(code, i, depths[i] + 1);
            }
        }

        /** Whether a code is seen for the first time; it is seen then. */
        private boolean isNew(int code) {
            int word = code >> 5;
            if (word < 0 || word >= SEEN_WORDS || bit(seen[word], code & 31) == 1) return false;
            seen[word] |= 1 << (code & 31);
            return true;
        }

        private void add(int code, int parent, int depth) {
            if (size >= MOST_POSITIONS) return;
            codes[size] = code;
            parents[size] = parent;
            depths[size] = depth;
            size++;
        }

        int firstHome() {
            for (int i = 0; i < size; i++) {
                if ((codes[i] & SQUARES_MASK) == told.goals) return i;
            }
            return NONE;
        }

        int firstHomeAlike() {
            for (int i = 0; i < size; i++) {
                if (allHomeAlike(codes[i])) return i;
            }
            return NONE;
        }

        /** No two men share a square or a goal: if each is at a goal of men like him, all those goals are taken. */
        private boolean allHomeAlike(int position) {
            for (int man = 0; man < told.men; man++) {
                int owner = told.manOf(told.goals, placeOf(man, position));
                if (owner == NONE) return false;
                boolean like = told.kinds[man] == told.kinds[owner] && told.colours[man] == told.colours[owner];
                if (!like) return false;
            }
            return true;
        }

        int depthOf(int i) {
            return i < 0 || i >= size ? NONE : depths[i];
        }

        int howMany(int depth) {
            int sum = 0;
            for (int i = 0; i < size; i++) {
                if (depths[i] == depth) sum++;
            }
            return sum;
        }

        int greatestDepth() {
            return depthOf(size - 1);
        }

        /** Of a hop on the first way to a found position: the man (what 0), the square (1). */
        int hopTowards(int found, int hop, int what) {
            if (hop < 0 || hop >= depthOf(found)) return NONE;
            int at = found;
            for (int n = depths[found] - 1; n > hop && at >= 0; n--) at = parents[at];
            if (at < 0 || parents[at] < 0) return NONE;
            int changed = (codes[at] ^ codes[parents[at]]) & SQUARES_MASK;
            for (int man = 0; man < told.men; man++) {
                if (placeOf(man, changed) != 0) return what == 0 ? man : placeOf(man, codes[at]);
            }
            return NONE;
        }
    }
}
