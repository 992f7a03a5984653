import java.util.ArrayDeque;
import java.util.ArrayList;
import java.util.Arrays;
import java.util.Collections;
import java.util.HashMap;
import java.util.HashSet;
import java.util.List;
import java.util.Map;
import java.util.Set;
import java.util.TreeMap;
import java.util.TreeSet;
import java.util.regex.Matcher;
import java.util.regex.Pattern;

/** The document told a second time, slowly and by other means than the class, to compare answers with. */
final class Oracle {
    private static final int NONE = -1, UNKNOWN = -2, OUTSIDE = -3, NOT = -4, FULL = -5;
    private static final List<String> KINDS = List.of("knight", "king", "rook", "bishop");
    private static final List<String> LAWS = List.of("free", "turns", "safe");
    private static final Pattern TOKEN = Pattern.compile("[a-z]+|[0-9]+|[^ ]", Pattern.DOTALL);

    /** A man as a text tells him. */
    private record Man(int kind, int colour, int start, int goal) { }

    /** What texts have told. */
    private record Told(int w, int h, TreeSet<Integer> holes, List<Man> men, String law) {
        Told copy() {
            return new Told(w, h, new TreeSet<>(holes), new ArrayList<>(men), law);
        }
    }

    /** Where the men are, and how many hops there were: all of them, or by turns whether they are odd. */
    private record Spot(List<Integer> at, int hops) { }

    private record Hop(int man, int square) { }

    /** A text's fault; in place of one, what is told behind its lines. */
    private record Reading(int fault, int lines, Told told) { }

    private Told told = new Told(3, 3, new TreeSet<>(), new ArrayList<>(), "free");
    private String text = "";
    private Spot now = new Spot(List.of(), 0);
    private final Map<Integer, Spot> kept = new TreeMap<>();
    private final List<Hop> row = new ArrayList<>();
    private Map<Spot, Integer> distances;

    int write(long bytes, int n) {
        if (n < 1 || n > 8) return OUTSIDE;
        if (text.length() + n > 200) return FULL;
        for (int i = 0; i < n; i++) text += (char) (bytes >>> 8 * i & 0xff);
        return text.length();
    }

    int erase() {
        int had = text.length();
        text = "";
        return had;
    }

    int fault() {
        return reading().fault;
    }

    int board() {
        Reading reading = reading();
        if (reading.fault != NONE) return NOT;
        told = reading.told;
        text = "";
        List<Integer> at = new ArrayList<>();
        for (Man man : told.men) at.add(man.start);
        now = new Spot(at, 0);
        distances = null;
        kept.clear();
        row.clear();
        return reading.lines;
    }

    private Reading reading() {
        List<String> tokens = new ArrayList<>();
        List<Integer> places = new ArrayList<>();
        Matcher matcher = TOKEN.matcher(text);
        while (matcher.find()) {
            tokens.add(matcher.group());
            places.add(matcher.start());
        }
        places.add(text.length());
        Told draft = told.copy();
        int t = 0;
        for (int lines = 1; ; lines++) {
            String word = t < tokens.size() ? tokens.get(t) : "";
            int numbers = numbersBehind(word);
            if (numbers < 0 || KINDS.contains(word) && draft.men.size() == 4) return new Reading(places.get(t), 0, null);
            t++;
            List<Integer> values = new ArrayList<>();
            for (int i = 0; i < numbers; i++, t++) {
                String number = t < tokens.size() ? tokens.get(t) : "";
                if (!number.matches("[0-9][0-9]?")) return new Reading(places.get(t), 0, null);
                values.add(Integer.parseInt(number));
                if (!stands(draft, word, values)) return new Reading(places.get(t), 0, null);
            }
            draft = done(draft, word, values);
            if (t == tokens.size()) return new Reading(NONE, lines, draft);
            if (!tokens.get(t).equals(";") || lines == 12) return new Reading(places.get(t), 0, null);
            t++;
        }
    }

    private static int numbersBehind(String word) {
        if (word.equals("board")) return 2;
        if (word.equals("hole")) return 1;
        if (KINDS.contains(word)) return 3;
        return LAWS.contains(word) || word.equals("bare") ? 0 : -1;
    }

    /** Whether the last one of a word's numbers so far can stand there. */
    private static boolean stands(Told draft, String word, List<Integer> values) {
        int last = values.get(values.size() - 1);
        if (word.equals("board")) return last >= 2 && last <= 4 && (values.size() == 1 || values.get(0) * last <= 12);
        if (!word.equals("hole") && values.size() == 1) return last < 2;
        boolean ground = last < draft.w * draft.h && !draft.holes.contains(last);
        boolean noMan = draft.men.stream().noneMatch(m -> m.start == last);
        boolean noGoal = draft.men.stream().noneMatch(m -> m.goal == last);
        if (word.equals("hole")) return ground && noMan && noGoal;
        return ground && (values.size() == 2 ? noMan : noGoal);
    }

    private static Told done(Told draft, String word, List<Integer> values) {
        if (word.equals("board")) {
            return new Told(values.get(0), values.get(1), new TreeSet<>(), new ArrayList<>(), "free");
        }
        if (LAWS.contains(word)) return new Told(draft.w, draft.h, draft.holes, draft.men, word);
        if (word.equals("bare")) draft.men.clear();
        if (word.equals("hole")) draft.holes.add(values.get(0));
        if (KINDS.contains(word)) {
            draft.men.add(new Man(KINDS.indexOf(word), values.get(0), values.get(1), values.get(2)));
        }
        return draft;
    }

    private boolean noSquare(int square) {
        return square < 0 || square >= told.w * told.h;
    }

    private boolean noMan(int man) {
        return man < 0 || man >= told.men.size();
    }

    int square(int square, int what) {
        if (noSquare(square)) return UNKNOWN;
        if (what < 0 || what > 2) return OUTSIDE;
        if (what == 0) return told.holes.contains(square) ? 1 : 0;
        return what == 1 ? now.at.indexOf(square) : goals().indexOf(square);
    }

    private List<Integer> goals() {
        List<Integer> goals = new ArrayList<>();
        for (Man man : told.men) goals.add(man.goal);
        return goals;
    }

    int man(int man, int what) {
        if (noMan(man)) return UNKNOWN;
        if (what < 0 || what > 3) return OUTSIDE;
        Man m = told.men.get(man);
        return new int[] {m.kind, m.colour, now.at.get(man), m.goal}[what];
    }

    int as(int man, int kind) {
        if (noMan(man)) return UNKNOWN;
        if (kind < 0 || kind > 6) return OUTSIDE;
        String such = new String[] {"0123", "01", "0", "1", "23", "2", "3"}[kind];
        if (such.indexOf('0' + told.men.get(man).kind) < 0) return NOT;
        return bits(reached(told.men.get(man).kind, now.at.get(man), told.holes, now.at));
    }

    private static int bits(Iterable<Integer> squares) {
        int bits = 0;
        for (int square : squares) bits |= 1 << square;
        return bits;
    }

    private TreeSet<Integer> reached(int kind, int from, TreeSet<Integer> holes, List<Integer> men) {
        TreeSet<Integer> reached = new TreeSet<>();
        for (int to = 0; to < told.w * told.h; to++) {
            if (to != from && !holes.contains(to) && reaches(kind, from, to, holes, men)) reached.add(to);
        }
        return reached;
    }

    private boolean reaches(int kind, int from, int to, TreeSet<Integer> holes, List<Integer> men) {
        int across = to % told.w - from % told.w;
        int down = to / told.w - from / told.w;
        int most = Math.max(Math.abs(across), Math.abs(down));
        if (kind == 0) return Math.abs(across * down) == 2;
        if (kind == 1) return most == 1;
        boolean straight = across == 0 || down == 0;
        boolean slant = Math.abs(across) == Math.abs(down);
        if (kind == 2 ? !straight : !slant) return false;
        for (int n = 1; n < most; n++) {
            int between = from + n * (across / most) + n * (down / most) * told.w;
            if (holes.contains(between) || men.contains(between)) return false;
        }
        return true;
    }

    int may(int man) {
        if (noMan(man)) return UNKNOWN;
        return bits(allowed(now, man, told.holes));
    }

    private TreeSet<Integer> allowed(Spot spot, int man, TreeSet<Integer> holes) {
        TreeSet<Integer> allowed = new TreeSet<>();
        Man m = told.men.get(man);
        if (told.law.equals("turns") && (m.colour == 0) != (spot.hops % 2 == 0)) return allowed;
        for (int to : reached(m.kind, spot.at.get(man), holes, spot.at)) {
            if (spot.at.contains(to)) continue;
            if (told.law.equals("safe") && attackedAt(hopped(spot, man, to).at, holes) != 0) continue;
            allowed.add(to);
        }
        return allowed;
    }

    private static Spot hopped(Spot spot, int man, int to) {
        List<Integer> at = new ArrayList<>(spot.at);
        at.set(man, to);
        return new Spot(at, spot.hops + 1);
    }

    private int attackedAt(List<Integer> at, TreeSet<Integer> holes) {
        int bits = 0;
        for (int a = 0; a < at.size(); a++) {
            for (int b = 0; b < at.size(); b++) {
                if (told.men.get(a).colour == told.men.get(b).colour) continue;
                if (reached(told.men.get(a).kind, at.get(a), holes, at).contains(at.get(b))) bits |= 1 << b;
            }
        }
        return bits;
    }

    int hop(int man, int square) {
        if (noMan(man) || noSquare(square)) return UNKNOWN;
        if (!allowed(now, man, told.holes).contains(square)) return NOT;
        if (now.hops + 1 > 9999) return FULL;
        now = hopped(now, man, square);
        distances = null;
        return now.hops;
    }

    int attacked() {
        return attackedAt(now.at, told.holes);
    }

    int keep(int k) {
        if (k != 0 && k != 1) return UNKNOWN;
        kept.put(k, now);
        return now.hops;
    }

    int back(int k) {
        if (k != 0 && k != 1) return UNKNOWN;
        if (!kept.containsKey(k)) return NOT;
        now = kept.get(k);
        distances = null;
        return now.hops;
    }

    private TreeSet<Integer> joined(int kind, int square) {
        if (told.holes.contains(square)) return new TreeSet<>();
        return reached(kind, square, told.holes, List.of());
    }

    int net(int kind, int square) {
        if (noSquare(square)) return UNKNOWN;
        if (kind < 0 || kind > 3) return OUTSIDE;
        return bits(joined(kind, square));
    }

    int part(int kind, int square) {
        if (noSquare(square)) return UNKNOWN;
        if (kind < 0 || kind > 3) return OUTSIDE;
        return bits(partAt(kind, square));
    }

    private TreeSet<Integer> partAt(int kind, int square) {
        TreeSet<Integer> part = new TreeSet<>();
        if (!told.holes.contains(square)) gather(kind, square, part);
        return part;
    }

    private void gather(int kind, int square, TreeSet<Integer> part) {
        if (!part.add(square)) return;
        for (int next : joined(kind, square)) gather(kind, next, part);
    }

    int shape(int kind, int square) {
        if (noSquare(square)) return UNKNOWN;
        if (kind < 0 || kind > 3) return OUTSIDE;
        if (told.holes.contains(square)) return NOT;
        List<Integer> degrees = new ArrayList<>();
        int twiceJoins = 0;
        for (int s : partAt(kind, square)) {
            degrees.add(joined(kind, s).size());
            twiceJoins += joined(kind, s).size();
        }
        Collections.sort(degrees);
        int n = degrees.size();
        int joins = twiceJoins / 2;
        if (n == 1) return 0;
        if (joins == n - 1) return degrees.get(n - 1) <= 2 ? 1 : 3;
        if (degrees.get(0) == 2 && degrees.get(n - 1) == 2) return 2;
        List<Integer> tail = new ArrayList<>(Collections.nCopies(n, 2));
        tail.set(0, 1);
        tail.set(n - 1, 3);
        return joins == n && degrees.equals(tail) ? 4 : 5;
    }

    int ring(int kind, int square, int i) {
        if (noSquare(square)) return UNKNOWN;
        if (kind < 0 || kind > 3 || i < 0) return OUTSIDE;
        if (shape(kind, square) != 2) return NOT;
        List<Integer> around = around(kind, square);
        return i < around.size() ? around.get(i) : NONE;
    }

    private List<Integer> around(int kind, int square) {
        List<Integer> around = new ArrayList<>(List.of(square));
        Integer next = joined(kind, square).first();
        while (next != null) {
            around.add(next);
            TreeSet<Integer> onward = joined(kind, next);
            onward.removeAll(around);
            next = onward.isEmpty() ? null : onward.first();
        }
        return around;
    }

    int turned(int kind) {
        if (kind < 0 || kind > 3) return OUTSIDE;
        if (told.men.isEmpty() || told.men.stream().anyMatch(m -> m.kind != kind)) return NOT;
        if (shape(kind, now.at.get(0)) != 2) return NOT;
        List<Integer> around = around(kind, now.at.get(0));
        if (!around.containsAll(now.at) || !around.containsAll(goals())) return NOT;
        List<Integer> men = new ArrayList<>();
        List<Integer> aims = new ArrayList<>();
        for (int square : around) {
            if (now.at.contains(square)) men.add(now.at.indexOf(square));
            if (goals().contains(square)) aims.add(goals().indexOf(square));
        }
        Collections.rotate(men, -men.indexOf(0));
        Collections.rotate(aims, -aims.indexOf(0));
        return men.equals(aims) ? 1 : 0;
    }

    private Spot plain(Spot spot) {
        return new Spot(spot.at, told.law.equals("turns") ? spot.hops % 2 : 0);
    }

    private Map<Spot, Integer> distancesWith(TreeSet<Integer> holes) {
        Map<Spot, Integer> far = new HashMap<>();
        ArrayDeque<Spot> open = new ArrayDeque<>();
        far.put(plain(now), 0);
        open.add(plain(now));
        while (!open.isEmpty()) {
            Spot spot = open.remove();
            for (int man = 0; man < told.men.size(); man++) {
                for (int to : allowed(spot, man, holes)) {
                    Spot next = plain(hopped(spot, man, to));
                    if (far.putIfAbsent(next, far.get(spot) + 1) == null) open.add(next);
                }
            }
        }
        return far;
    }

    private Map<Spot, Integer> distances() {
        if (distances == null) distances = distancesWith(told.holes);
        return distances;
    }

    private static int least(Map<Spot, Integer> far, List<Integer> goals) {
        int even = far.getOrDefault(new Spot(goals, 0), Integer.MAX_VALUE);
        int odd = far.getOrDefault(new Spot(goals, 1), Integer.MAX_VALUE);
        int least = Math.min(even, odd);
        return least == Integer.MAX_VALUE ? NONE : least;
    }

    int fewest() {
        return least(distances(), goals());
    }

    int way(int i, int what) {
        if (i < 0 || what < 0 || what > 1) return OUTSIDE;
        int length = fewest();
        if (i >= length) return NONE;
        List<Hop> way = firstWay(length);
        return what == 0 ? way.get(i).man : way.get(i).square;
    }

    /** From each position on, the first hop from which the goals are still in reach of the hops that are left. */
    private List<Hop> firstWay(int length) {
        List<Set<Spot>> useful = new ArrayList<>();
        for (int n = 0; n <= length; n++) useful.add(new HashSet<>());
        for (Map.Entry<Spot, Integer> entry : distances().entrySet()) {
            if (entry.getValue() < length) useful.get(entry.getValue()).add(entry.getKey());
            else if (entry.getValue() == length && entry.getKey().at.equals(goals())) {
                useful.get(length).add(entry.getKey());
            }
        }
        for (int n = length - 1; n >= 0; n--) {
            Set<Spot> later = useful.get(n + 1);
            useful.get(n).removeIf(spot -> firstInto(spot, later) == null);
        }
        List<Hop> way = new ArrayList<>();
        Spot spot = plain(now);
        for (int n = 0; n < length; n++) {
            Hop hop = firstInto(spot, useful.get(n + 1));
            way.add(hop);
            spot = plain(hopped(spot, hop.man, hop.square));
        }
        return way;
    }

    private Hop firstInto(Spot spot, Set<Spot> later) {
        for (int man = 0; man < told.men.size(); man++) {
            for (int to : allowed(spot, man, told.holes)) {
                if (later.contains(plain(hopped(spot, man, to)))) return new Hop(man, to);
            }
        }
        return null;
    }

    int alike() {
        return leastAlike(new ArrayList<>());
    }

    /** Tries every way to give the men goals of men like them. */
    private int leastAlike(List<Integer> given) {
        int man = given.size();
        if (man == told.men.size()) return least(distances(), given);
        int least = NONE;
        for (Man other : told.men) {
            Man m = told.men.get(man);
            if (other.kind != m.kind || other.colour != m.colour || given.contains(other.goal)) continue;
            given.add(other.goal);
            int found = leastAlike(given);
            given.remove(man);
            if (found != NONE && (least == NONE || found < least)) least = found;
        }
        return least;
    }

    int many(int n) {
        if (n < 0) return OUTSIDE;
        return Collections.frequency(distances().values(), n);
    }

    int farthest(int what) {
        if (what < 0 || what > 1) return OUTSIDE;
        int most = Collections.max(distances().values());
        return what == 0 ? most : many(most);
    }

    int left(int square) {
        if (noSquare(square)) return UNKNOWN;
        if (told.holes.contains(square) || now.at.contains(square) || goals().contains(square)) return NOT;
        TreeSet<Integer> holes = new TreeSet<>(told.holes);
        holes.add(square);
        return least(distancesWith(holes), goals());
    }

    int added(int square) {
        if (noSquare(square)) return UNKNOWN;
        if (!told.holes.contains(square)) return NOT;
        TreeSet<Integer> holes = new TreeSet<>(told.holes);
        holes.remove(square);
        return least(distancesWith(holes), goals());
    }

    int row(int man, int square) {
        if (noMan(man) || noSquare(square)) return UNKNOWN;
        if (row.size() == 12) return FULL;
        row.add(new Hop(man, square));
        return row.size();
    }

    int burn() {
        int had = row.size();
        row.clear();
        return had;
    }

    int judge() {
        Spot spot = now;
        for (int i = 0; i < row.size(); i++) {
            Hop hop = row.get(i);
            if (!allowed(spot, hop.man, told.holes).contains(hop.square)) return i;
            spot = hopped(spot, hop.man, hop.square);
        }
        return NONE;
    }

    int count(int what) {
        if (what < 0 || what > 8) return OUTSIDE;
        List<Integer> home = new ArrayList<>();
        for (int man = 0; man < told.men.size(); man++) {
            if (now.at.get(man) == told.men.get(man).goal) home.add(man);
        }
        List<Integer> counts = Arrays.asList(told.w, told.h, told.men.size(), bits(told.holes),
            LAWS.indexOf(told.law), now.hops, bits(home), row.size(), text.length());
        return counts.get(what);
    }
}
