import java.math.BigInteger;
import java.util.ArrayDeque;
import java.util.ArrayList;
import java.util.Arrays;
import java.util.Comparator;
import java.util.Deque;
import java.util.List;
import java.util.NoSuchElementException;
import java.util.function.IntPredicate;
import java.util.function.ToIntFunction;

/** The document once more, told in another way and as plainly as can be: ModelTest compares the class with it. */
final class Model {
    static final class Hearse {
        int cell;
        int rank;
    }

    static final class Mourner {
        int cell;
        int own;
        int follows = -1;
        int ended = -1;
    }

    static final class State {
        List<Hearse> hearses = new ArrayList<>();
        List<Mourner> mourners = new ArrayList<>();
        int step;

        State copy() {
            State s = new State();
            s.step = step;
            for (Hearse h : hearses) {
                Hearse n = new Hearse();
                n.cell = h.cell;
                n.rank = h.rank;
                s.hearses.add(n);
            }
            for (Mourner m : mourners) {
                Mourner n = new Mourner();
                n.cell = m.cell;
                n.own = m.own;
                n.follows = m.follows;
                n.ended = m.ended;
                s.mourners.add(n);
            }
            return s;
        }

        int arrived() {
            return (int) hearses.stream().filter(h -> h.rank > 0).count();
        }

        int bits(IntPredicate isIn) {
            int bits = 0;
            for (int m = 0; m < mourners.size(); m++) {
                if (isIn.test(m)) {
                    bits += 1 << m;
                }
            }
            return bits;
        }

        int rightOnes() {
            return bits(m -> mourners.get(m).ended >= 0 && mourners.get(m).ended == mourners.get(m).own);
        }
    }

    private String text = "";
    private String street = "....";
    private String weather = "0";
    private String rule = "1+(g>2)";
    private State state = new State();
    private Deque<State> done = new ArrayDeque<>();
    private State[] kept = new State[3];
    private List<int[]> heard = new ArrayList<>();
    private List<Long> row = new ArrayList<>();

    private long waits;
    private long changes;
    private int[] waitsOn = new int[30];
    private int[] changesOf = new int[8];

    private void tell(long... numbers) {
        row.clear();
        for (long n : numbers) {
            row.add(n);
        }
    }

    private String takeText() {
        String t = text;
        text = "";
        return t;
    }

    private int gate() {
        return street.length() - 1;
    }

    // ---- texts

    int sign(int v) {
        if (text.length() > 76) {
            return -1;
        }
        for (byte b : BigInteger.valueOf((1L << 32) + (v & 0xFFFFFFFFL)).toByteArray()) {
            text += (char) (b & 255);
        }
        // the first byte is the 1 that keeps the length
        text = text.substring(0, text.length() - 5) + text.substring(text.length() - 4);
        return text.length();
    }

    boolean end(int n) {
        if (n < 0 || n > text.length()) {
            return false;
        }
        text = text.substring(0, n);
        return true;
    }

    private static int firstNot(String t, String allowed) {
        for (int p = 0; p < t.length(); p++) {
            if (allowed.indexOf(t.charAt(p)) < 0) {
                return p;
            }
        }
        return t.length();
    }

    int avenue() {
        String t = takeText();
        int good = Math.min(firstNot(t, ".c"), 30);
        if (good < t.length() || good < 4) {
            return -1 - good;
        }
        street = t;
        state = new State();
        done.clear();
        kept = new State[3];
        return t.length();
    }

    int weather() {
        String t = takeText();
        int good = Math.min(firstNot(t, "0123456789"), 20);
        if (good < t.length() || good == 0) {
            return -1 - good;
        }
        weather = t;
        return t.length();
    }

    /** Lines of a text, each read on its own from where it begins; the answer is that of hearses() or mourners(). */
    private int lines(String whole, int most, boolean ofMourners) {
        if (whole.isEmpty()) {
            return 0;
        }
        String t = whole.length() > most ? whole.substring(0, most) : whole;
        State s = state.copy();
        int lines = 0;
        int begin = 0;
        while (true) {
            int p = ofMourners ? mournerLine(t, begin, s) : hearseLine(t, begin, s);
            if (p < 0) {
                return p;
            }
            lines++;
            if (p == t.length()) {
                break;
            }
            if (t.charAt(p) != ';') {
                return -1 - p;
            }
            begin = p + 1;
        }
        if (whole.length() > most) {
            return -1 - most;
        }
        state = s;
        done.clear();
        return lines;
    }

    private static boolean digitAt(String t, int p) {
        return p < t.length() && t.charAt(p) >= '0' && t.charAt(p) <= '9';
    }

    private int hearseLine(String t, int begin, State s) {
        if (s.hearses.size() == 6 || !digitAt(t, begin)) {
            return -1 - begin;
        }
        int last = digitAt(t, begin + 1) ? begin + 1 : begin;
        int cell = Integer.parseInt(t.substring(begin, last + 1));
        if (cell >= gate() || s.hearses.stream().anyMatch(h -> h.rank == 0 && h.cell == cell)) {
            return -1 - last;
        }
        Hearse h = new Hearse();
        h.cell = cell;
        s.hearses.add(h);
        return last + 1;
    }

    private int mournerLine(String t, int begin, State s) {
        if (s.mourners.size() == 8 || !digitAt(t, begin)) {
            return -1 - begin;
        }
        int last = digitAt(t, begin + 1) ? begin + 1 : begin;
        Mourner m = new Mourner();
        m.cell = Integer.parseInt(t.substring(begin, last + 1));
        if (m.cell >= gate()) {
            return -1 - last;
        }
        if (last + 1 >= t.length() || t.charAt(last + 1) < 'a' || t.charAt(last + 1) >= 'a' + s.hearses.size()) {
            return -2 - last;
        }
        m.own = t.charAt(last + 1) - 'a';
        s.mourners.add(m);
        return last + 2;
    }

    int hearses() {
        return lines(takeText(), 17, false);
    }

    int mourners() {
        return lines(takeText(), 39, true);
    }

    // ---- the rule: where it can't stand is where no end of a prefix makes a rule of it

    private static final class NoRule extends Exception {
        private static final long serialVersionUID = 1L;
    }

    /** A rule that is read anew each time that it is asked. */
    private static final class Asking {
        final String t;
        final ToIntFunction<Character> given;
        int p = 0;

        Asking(String t, ToIntFunction<Character> given) {
            this.t = t;
            this.given = given;
        }

        char here() {
            return p < t.length() ? t.charAt(p) : 0;
        }

        int expression(int depth) throws NoRule {
            int one = sum(depth);
            char c = here();
            if (c == 0 || "<>=".indexOf(c) < 0) {
                return one;
            }
            p++;
            int other = sum(depth);
            return (c == '<' ? one < other : c == '>' ? one > other : one == other) ? 1 : 0;
        }

        int sum(int depth) throws NoRule {
            int value = product(depth);
            while (here() == '+' || here() == '-') {
                boolean plus = here() == '+';
                p++;
                int other = product(depth);
                value = plus ? value + other : value - other;
            }
            return value;
        }

        int product(int depth) throws NoRule {
            int value = thing(depth);
            while (here() == '*' || here() == '/') {
                boolean times = here() == '*';
                p++;
                int other = thing(depth);
                value = times ? value * other : other == 0 ? 0 : value / other;
            }
            return value;
        }

        int thing(int depth) throws NoRule {
            char c = here();
            if (c == '-') {
                p++;
                return -thing(depth);
            }
            if (c == '(') {
                if (depth == 4) {
                    throw new NoRule();
                }
                p++;
                int value = expression(depth + 1);
                if (here() != ')') {
                    throw new NoRule();
                }
                p++;
                return value;
            }
            if (digitAt(t, p)) {
                int begin = p;
                while (p < begin + 3 && digitAt(t, p)) {
                    p++;
                }
                return Integer.parseInt(t.substring(begin, p));
            }
            if (c == 0 || "pgcwtim".indexOf(c) < 0) {
                throw new NoRule();
            }
            p++;
            return given.applyAsInt(c);
        }
    }

    private static boolean isRule(String t) {
        Asking a = new Asking(t, c -> 1);
        try {
            a.expression(0);
        } catch (NoRule e) {
            return false;
        }
        return a.p == t.length();
    }

    private static boolean canGoOnOrEnd(String t) {
        for (String end : Arrays.asList("", ")", "))", ")))", "))))")) {
            if (isRule(t + end) || isRule(t + "1" + end)) {
                return true;
            }
        }
        return false;
    }

    /** -1: it is a rule. */
    private static int ruleFault(String t) {
        for (int p = 0; p < Math.min(t.length(), 40); p++) {
            if (!canGoOnOrEnd(t.substring(0, p + 1))) {
                return p;
            }
        }
        return t.length() > 40 ? 40 : isRule(t) ? -1 : t.length();
    }

    int rule() {
        String t = takeText();
        int fault = t.isEmpty() ? -1 : ruleFault(t);
        if (fault >= 0) {
            return -1 - fault;
        }
        rule = t.isEmpty() ? "1+(g>2)" : t;
        return 0;
    }

    private int pace(State s, int hearse, String byRule) {
        Hearse h = s.hearses.get(hearse);
        if (h.rank > 0) {
            return 0;
        }
        Asking a = new Asking(byRule, c -> {
            switch (c) {
                case 'p':
                    return h.cell;
                case 'g':
                    int free = 0;
                    for (int q = h.cell + 1; q <= gate() && hearseOn(s, q) < 0; q++) {
                        free++;
                    }
                    return free;
                case 'c':
                    return street.charAt(h.cell) == 'c' ? 1 : 0;
                case 'w':
                    return weather.charAt(s.step % weather.length()) - '0';
                case 't':
                    return s.step % 10;
                case 'i':
                    return hearse;
                default:
                    return (int) s.mourners.stream().filter(m -> m.follows == hearse).count();
            }
        });
        try {
            return Math.max(0, Math.min(3, a.expression(0)));
        } catch (NoRule e) {
            throw new IllegalStateException("no rule: " + byRule);
        }
    }

    private static int hearseOn(State s, int cell) {
        for (int h = 0; h < s.hearses.size(); h++) {
            if (s.hearses.get(h).rank == 0 && s.hearses.get(h).cell == cell) {
                return h;
            }
        }
        return -1;
    }

    // ---- a step

    private static List<Integer> lineOf(State s) {
        List<Integer> line = new ArrayList<>();
        for (int h = 0; h < s.hearses.size(); h++) {
            if (s.hearses.get(h).rank == 0) {
                line.add(h);
            }
        }
        line.sort(Comparator.comparing(h -> -s.hearses.get(h).cell));
        return line;
    }

    private void forgetTallies() {
        waits = 0;
        changes = 0;
        waitsOn = new int[30];
        changesOf = new int[8];
    }

    private void step(State s, String byRule) {
        for (int h : lineOf(s)) {
            Hearse hearse = s.hearses.get(h);
            int pace = pace(s, h, byRule);
            int goal = -1;
            boolean passesSome = false;
            boolean corner = street.charAt(hearse.cell) == 'c';
            for (int q = hearse.cell + 1; q <= hearse.cell + pace && q <= gate(); q++) {
                corner |= street.charAt(q) == 'c';
                boolean free = q == gate() || hearseOn(s, q) < 0;
                if (free && (!passesSome || !corner)) {
                    goal = q;
                }
                passesSome |= hearseOn(s, q) >= 0;
            }
            if (goal < 0) {
                waits++;
                waitsOn[hearse.cell]++;
            } else if (goal == gate()) {
                hearse.rank = s.arrived() + 1;
            } else {
                hearse.cell = goal;
            }
        }
        for (int m = 0; m < s.mourners.size(); m++) {
            mournerStep(s, m);
        }
        s.step++;
    }

    private void mournerStep(State s, int number) {
        Mourner m = s.mourners.get(number);
        if (m.ended >= 0) {
            return;
        }
        if (m.follows >= 0 && s.hearses.get(m.follows).rank > 0) {
            m.ended = m.follows;
            return;
        }
        int nearest = nearest(s, m.cell);
        if (nearest < 0) {
            return;
        }
        if (m.follows < 0 || way(s, m, nearest) < way(s, m, m.follows)) {
            m.follows = nearest;
            changes++;
            changesOf[number]++;
        }
        for (int k = 0; k < 2; k++) {
            m.cell += Integer.signum(s.hearses.get(m.follows).cell - m.cell);
        }
    }

    private static int way(State s, Mourner m, int hearse) {
        return Math.abs(s.hearses.get(hearse).cell - m.cell);
    }

    private static int nearest(State s, int cell) {
        for (int d = 0; d < 30; d++) {
            int ahead = hearseOn(s, cell + d);
            int behind = hearseOn(s, cell - d);
            if (ahead >= 0 || behind >= 0) {
                return ahead >= 0 ? ahead : behind;
            }
        }
        return -1;
    }

    private State end(State from, String byRule) {
        State s = from.copy();
        for (int k = 0; k < 200; k++) {
            step(s, byRule);
        }
        return s;
    }

    // ---- what is there

    int hearse(int hearse, int what) {
        if (hearse < 0 || hearse >= state.hearses.size()) {
            throw new NoSuchElementException();
        }
        Hearse h = state.hearses.get(hearse);
        switch (what) {
            case 0:
                return h.rank > 0 ? -1 : h.cell;
            case 1:
                return h.rank;
            case 2:
                return pace(state, hearse, rule);
            case 3:
                return state.bits(m -> state.mourners.get(m).follows == hearse);
            case 4:
                return state.bits(m -> state.mourners.get(m).ended == hearse);
            case 5:
                return state.bits(m -> state.mourners.get(m).own == hearse);
            default:
                throw new NoSuchElementException();
        }
    }

    int mourner(int mourner, int what) {
        if (mourner < 0 || mourner >= state.mourners.size()) {
            throw new NoSuchElementException();
        }
        Mourner m = state.mourners.get(mourner);
        switch (what) {
            case 0:
                return m.cell;
            case 1:
                return m.own;
            case 2:
                return m.follows;
            case 3:
                return m.ended;
            case 4:
                return nearest(state, m.cell);
            default:
                throw new NoSuchElementException();
        }
    }

    int sheet(int kind, int n, int f, int step) {
        if (kind < 0 || kind > 3 || n > 8) {
            return -1;
        }
        if (kind != 3 && n < 0) {
            return -2;
        }
        int entry = f;
        int sum = 0;
        for (int m = 0; m < state.mourners.size(); m++) {
            Mourner who = state.mourners.get(m);
            int value = kind == 0 ? (byte) entry : kind == 1 ? (short) entry : entry;
            if (who.ended < 0) {
                who.cell = kind == 3 || m >= n ? 0 : value < 0 ? 0 : value >= gate() ? gate() - 1 : value;
            }
            sum += who.cell;
            entry += step;
        }
        return kind == 3 ? -3 : sum;
    }

    // ---- steps

    private void remember(State before) {
        done.addLast(before);
        if (done.size() > 15) {
            done.removeFirst();
        }
    }

    private static boolean isDone(int answer) {
        return answer >= 0 || answer == -4;
    }

    int steps(int n) {
        if (n < 0 || n > 60) {
            return -1;
        }
        remember(state.copy());
        forgetTallies();
        for (int k = 0; k < n; k++) {
            step(state, rule);
        }
        tell(waits, changes);
        return state.arrived();
    }

    private static int turn(State s, int mourner) {
        if (mourner < 0 || mourner >= s.mourners.size()) {
            return -1;
        }
        Mourner m = s.mourners.get(mourner);
        if (m.ended >= 0) {
            return -2;
        }
        if (s.hearses.get(m.own).rank > 0 || m.follows == m.own) {
            return -3;
        }
        int followed = m.follows;
        m.follows = m.own;
        return followed < 0 ? -4 : followed;
    }

    private int push(State s, int mourner, int v) {
        if (mourner < 0 || mourner >= s.mourners.size() || v == 0 || Math.abs((long) v) > 9) {
            return -1;
        }
        Mourner m = s.mourners.get(mourner);
        if (m.ended >= 0) {
            return -2;
        }
        m.cell += v;
        m.cell = m.cell < 0 ? 0 : m.cell >= gate() ? gate() - 1 : m.cell;
        return m.cell;
    }

    private static int swap(State s, int one, int other) {
        if (one < 0 || other < 0 || one >= s.hearses.size() || other >= s.hearses.size() || one == other) {
            return -1;
        }
        Hearse a = s.hearses.get(one);
        Hearse b = s.hearses.get(other);
        if (a.rank > 0 || b.rank > 0) {
            return -2;
        }
        int cell = a.cell;
        a.cell = b.cell;
        b.cell = cell;
        return Math.abs(a.cell - b.cell);
    }

    private int done(State before, int answer) {
        if (isDone(answer)) {
            remember(before);
        }
        return answer;
    }

    int turnsTo(int mourner) {
        State before = state.copy();
        return done(before, turn(state, mourner));
    }

    int pushes(int mourner, int v) {
        State before = state.copy();
        return done(before, push(state, mourner, v));
    }

    int swaps(int one, int other) {
        State before = state.copy();
        return done(before, swap(state, one, other));
    }

    int hour() {
        String t = takeText();
        List<String> acts = new ArrayList<>();
        int p = 0;
        String seen = t.length() > 60 ? t.substring(0, 60) : t;
        while (p < seen.length()) {
            String form = "nt".indexOf(seen.charAt(p)) >= 0 ? "0" : "pb".indexOf(seen.charAt(p)) >= 0 ? "01"
                : seen.charAt(p) == 'x' ? "00" : null;
            if (form == null) {
                return -1 - p;
            }
            for (int k = 0; k < form.length(); k++) {
                int q = p + 1 + k;
                if (!digitAt(seen, q) || seen.charAt(q) < form.charAt(k)) {
                    return -1 - q;
                }
            }
            acts.add(seen.substring(p, p + 1 + form.length()));
            p += 1 + form.length();
        }
        if (t.length() > 60) {
            return -61;
        }
        State before = state.copy();
        int many = 0;
        int refused = 0;
        for (String act : acts) {
            int a = act.charAt(1) - '0';
            int b = act.length() > 2 ? act.charAt(2) - '0' : 0;
            int answer = 0;
            switch (act.charAt(0)) {
                case 'n':
                    for (int k = 0; k < a; k++) {
                        step(state, rule);
                    }
                    break;
                case 't':
                    answer = turn(state, a);
                    break;
                case 'p':
                    answer = push(state, a, b);
                    break;
                case 'b':
                    answer = push(state, a, -b);
                    break;
                default:
                    answer = swap(state, a, b);
            }
            if (!isDone(answer)) {
                refused = 1;
                break;
            }
            many++;
        }
        if (many > 0) {
            remember(before);
        }
        tell(refused, state.step);
        return many;
    }

    int undo() {
        if (done.isEmpty()) {
            return -1;
        }
        state = done.removeLast();
        return done.size();
    }

    // ---- the line

    int line() {
        tell(lineOf(state).stream().mapToLong(h -> h).toArray());
        return row.size();
    }

    int ahead(int n) {
        if (n < 0 || n > 99) {
            return -1;
        }
        State s = state.copy();
        for (int k = 0; k < n; k++) {
            step(s, rule);
        }
        tell(s.hearses.stream().mapToLong(h -> h.rank > 0 ? -1 : h.cell).toArray());
        return s.arrived();
    }

    int arrives(int hearse) {
        if (hearse < 0 || hearse >= state.hearses.size()) {
            return -1;
        }
        State s = state.copy();
        for (int n = 0; n <= 200; n++) {
            if (s.hearses.get(hearse).rank > 0) {
                tell(s.hearses.get(hearse).rank);
                return n;
            }
            step(s, rule);
        }
        return -2;
    }

    int jam(int n) {
        if (n < 1 || n > 60) {
            return -1;
        }
        State s = state.copy();
        forgetTallies();
        for (int k = 0; k < n; k++) {
            step(s, rule);
        }
        int most = Arrays.stream(waitsOn).max().getAsInt();
        for (int cell = 0; ; cell++) {
            if (waitsOn[cell] == most) {
                tell(most, waits);
                return cell;
            }
        }
    }

    int passes(int one, int other) {
        int many = state.hearses.size();
        if (one < 0 || other < 0 || one >= many || other >= many || one == other) {
            return -1;
        }
        State s = state.copy();
        Hearse a = s.hearses.get(one);
        Hearse b = s.hearses.get(other);
        if (a.rank > 0 || b.rank > 0 || a.cell > b.cell) {
            return -2;
        }
        for (int n = 1; n <= 60; n++) {
            step(s, rule);
            int far = a.rank > 0 ? 1000 - a.rank : a.cell;
            int otherFar = b.rank > 0 ? 1000 - b.rank : b.cell;
            if (far > otherFar) {
                tell(a.rank > 0 ? -1 : a.cell);
                return n;
            }
        }
        return -2;
    }

    // ---- who ends where

    int ends(int mourner) {
        if (mourner < 0 || mourner >= state.mourners.size()) {
            return -1;
        }
        State s = state.copy();
        forgetTallies();
        for (int n = 0; n <= 200; n++) {
            if (s.mourners.get(mourner).ended >= 0) {
                tell(n, changesOf[mourner]);
                return s.mourners.get(mourner).ended;
            }
            step(s, rule);
        }
        return -2;
    }

    int right() {
        State s = end(state, rule);
        int rightOnes = s.rightOnes();
        tell(rightOnes, s.bits(m -> s.mourners.get(m).ended >= 0) & ~rightOnes);
        return Integer.bitCount(rightOnes);
    }

    int order() {
        List<Integer> who = new ArrayList<>();
        List<Integer> cells = new ArrayList<>();
        for (int h = 0; h < state.hearses.size(); h++) {
            if (state.hearses.get(h).rank == 0) {
                who.add(h);
                cells.add(state.hearses.get(h).cell);
            }
        }
        long[][] best = new long[1][];
        int most = tryOrders(who, cells, new ArrayList<>(), -1, best);
        tell(best[0]);
        return most;
    }

    private int tryOrders(List<Integer> who, List<Integer> left, List<Integer> chosen, int best, long[][] bestRow) {
        if (left.isEmpty()) {
            State s = state.copy();
            for (int k = 0; k < who.size(); k++) {
                s.hearses.get(who.get(k)).cell = chosen.get(k);
            }
            int good = Integer.bitCount(end(s, rule).rightOnes());
            long[] row = chosen.stream().mapToLong(c -> c).toArray();
            boolean better = good > best || good == best && Arrays.compare(row, bestRow[0]) < 0;
            bestRow[0] = better ? row : bestRow[0];
            return Math.max(best, good);
        }
        int most = best;
        for (Integer cell : left) {
            List<Integer> rest = new ArrayList<>(left);
            rest.remove(cell);
            List<Integer> more = new ArrayList<>(chosen);
            more.add(cell);
            most = tryOrders(who, rest, more, most, bestRow);
        }
        return most;
    }

    int stands(int mourner) {
        if (mourner < 0 || mourner >= state.mourners.size()) {
            return -1;
        }
        if (state.mourners.get(mourner).ended >= 0) {
            return -2;
        }
        List<Integer> good = new ArrayList<>();
        for (int cell = 0; cell < gate(); cell++) {
            State s = state.copy();
            s.mourners.get(mourner).cell = cell;
            s.mourners.get(mourner).follows = -1;
            if ((end(s, rule).rightOnes() >> mourner & 1) == 1) {
                good.add(cell);
            }
        }
        if (good.isEmpty()) {
            return -2;
        }
        tell(good.size());
        return good.get(0);
    }

    int when(int mourner) {
        if (mourner < 0 || mourner >= state.mourners.size()) {
            return -1;
        }
        List<Integer> good = new ArrayList<>();
        State s = state.copy();
        for (int n = 0; n <= 60; n++) {
            State t = s.copy();
            Mourner m = t.mourners.get(mourner);
            boolean can = m.ended < 0 && t.hearses.get(m.own).rank == 0;
            m.follows = can ? m.own : m.follows;
            if (can && (end(t, rule).rightOnes() >> mourner & 1) == 1) {
                good.add(n);
            }
            step(s, rule);
        }
        if (good.isEmpty()) {
            return -2;
        }
        tell(good.get(good.size() - 1));
        return good.get(0);
    }

    int mends(int k) {
        if (k < 0 || k > 8) {
            return -1;
        }
        int best = -1;
        for (int bits = 0; bits < 1 << state.mourners.size(); bits++) {
            State s = state.copy();
            boolean can = true;
            for (int m = 0; m < state.mourners.size(); m++) {
                can &= (bits >> m & 1) == 0 || isDone(turn(s, m));
            }
            if (can && (best < 0 || Integer.bitCount(bits) < Integer.bitCount(best))
                && Integer.bitCount(end(s, rule).rightOnes()) >= k) {
                best = bits;
            }
        }
        if (best < 0) {
            return -2;
        }
        tell(best);
        return Integer.bitCount(best);
    }

    int misleads() {
        int asItIs = end(state, rule).rightOnes();
        int worst = -2;
        int most = -1;
        for (int h = 0; h < state.hearses.size(); h++) {
            if (state.hearses.get(h).rank > 0) {
                continue;
            }
            int number = h;
            State s = state.copy();
            s.hearses.get(h).rank = s.arrived() + 1;
            s.mourners.stream().filter(m -> m.follows == number).forEach(m -> m.follows = -1);
            int others = state.bits(m -> state.mourners.get(m).own != number);
            int good = Integer.bitCount(end(s, rule).rightOnes() & others);
            if (good > most) {
                most = good;
                worst = h;
                tell(good, Integer.bitCount(asItIs & others));
            }
        }
        return worst;
    }

    int crowd() {
        State s = end(state, rule);
        int first = -2;
        long most = -1;
        for (int h = 0; h < s.hearses.size(); h++) {
            int number = h;
            long many = s.mourners.stream().filter(m -> m.ended == number).count();
            if (many > most) {
                most = many;
                first = h;
                tell(many, s.mourners.stream().filter(m -> m.ended == number && m.own == number).count());
            }
        }
        return first;
    }

    // ---- near ones

    int shares(int v) {
        if (v < 0 || v > 30) {
            return -1;
        }
        long[][] best = {new long[0]};
        int most = tryShares(v, new ArrayList<>(), 0, -1, best);
        tell(best[0]);
        return most;
    }

    /** Every way to share out, in rising order of rows, so that the first of as good ones is the least. */
    private int tryShares(int v, List<Integer> chosen, int many, int best, long[][] bestRow) {
        int m = chosen.size();
        if (m == state.mourners.size()) {
            if (many > best) {
                bestRow[0] = chosen.stream().mapToLong(c -> c).toArray();
            }
            return Math.max(many, best);
        }
        int most = best;
        for (int h = -1; h < state.hearses.size(); h++) {
            boolean can = h < 0 || state.mourners.get(m).ended < 0 && state.hearses.get(h).rank == 0
                && way(state, state.mourners.get(m), h) <= v && !chosen.contains(h);
            if (can) {
                chosen.add(h);
                most = tryShares(v, chosen, many + (h < 0 ? 0 : 1), most, bestRow);
                chosen.remove(chosen.size() - 1);
            }
        }
        return most;
    }

    int strangers() {
        for (int d = 0; d < 30; d++) {
            for (int a = 0; a < state.mourners.size(); a++) {
                for (int b = a + 1; b < state.mourners.size(); b++) {
                    Mourner one = state.mourners.get(a);
                    Mourner other = state.mourners.get(b);
                    if (one.ended < 0 && other.ended < 0 && one.own != other.own && Math.abs(one.cell - other.cell) == d) {
                        tell(a, b);
                        return d;
                    }
                }
            }
        }
        return -2;
    }

    int doubts() {
        int bits = state.bits(m -> {
            int[] ways = lineOf(state).stream().mapToInt(h -> way(state, state.mourners.get(m), h)).sorted().toArray();
            return ways.length > 1 && ways[0] == ways[1];
        });
        tell(Integer.bitCount(bits));
        return bits;
    }

    // ---- whose it was

    int heard(int what, int v) {
        int[] least = {0, 1, 0, 0};
        int[] most = {8, 6, 8, 1};
        if (what < 0 || what > 3 || v < least[what] || v > most[what] || heard.size() == 8) {
            return -1;
        }
        heard.add(new int[] {what, v});
        return heard.size();
    }

    int forget() {
        int many = heard.size();
        heard.clear();
        return many;
    }

    int fits() {
        State s = end(state, rule);
        int bits = 0;
        for (int h = 0; h < s.hearses.size(); h++) {
            int number = h;
            long[] truth = {s.mourners.stream().filter(m -> m.own == number).count(), s.hearses.get(h).rank,
                s.mourners.stream().filter(m -> m.ended == number).count(), h % 2};
            boolean all = heard.stream().allMatch(x -> x[0] == 0 || x[0] == 2 ? truth[x[0]] >= x[1] : truth[x[0]] == x[1]);
            bits += all ? 1 << h : 0;
        }
        tell(Integer.bitCount(bits));
        return bits;
    }

    // ---- chances, laws

    int rains(int n, int k, int p) {
        if (n < 1 || n > 12 || k < 0 || k > 12 || p < 0 || p > 10) {
            return -1;
        }
        BigInteger upper = BigInteger.ZERO;
        for (int days = 1; days < 1 << n; days += 2) {
            int wet = Integer.bitCount(days);
            if (wet >= k) {
                upper = upper.add(BigInteger.valueOf(p).pow(wet).multiply(BigInteger.valueOf(10 - p).pow(n - wet)));
            }
        }
        BigInteger lower = BigInteger.TEN.pow(n);
        BigInteger common = upper.gcd(lower);
        tell(upper.divide(common).longValueExact(), lower.divide(common).longValueExact());
        return 0;
    }

    int law() {
        String t = takeText();
        int fault = t.isEmpty() ? -1 : ruleFault(t);
        if (fault >= 0) {
            return -10000 - fault;
        }
        int byIt = Integer.bitCount(end(state, t.isEmpty() ? "1+(g>2)" : t).rightOnes());
        int byRule = Integer.bitCount(end(state, rule).rightOnes());
        tell(byIt, byRule);
        return byIt - byRule;
    }

    // ---- rests, years

    private static int has(int v, int x, int y) {
        int all = x > y ? v : x < y ? 0 : v / 2;
        return all - (x > 2 * y ? x + 3 : x);
    }

    int rests(int v) {
        if (v < 0 || v > 20) {
            return -1;
        }
        int pairs = 0;
        tell();
        for (int x = 9; x >= 0; x--) {
            for (int y = 9; y >= 0; y--) {
                boolean rest = true;
                for (int z = 0; z < 10; z++) {
                    rest &= has(v, z, y) <= has(v, x, y) && has(v, z, x) <= has(v, y, x);
                }
                if (rest) {
                    pairs++;
                    tell(x, y);
                }
            }
        }
        return pairs;
    }

    int years(int seed, int n) {
        if (n < 1 || n > 60) {
            return -1;
        }
        State s = state.copy();
        int[] r = {seed};
        for (int k = 0; k < n; k++) {
            int lot = draw(r, 4);
            if (lot <= 1) {
                step(s, rule);
            } else if (!s.mourners.isEmpty()) {
                int m = draw(r, s.mourners.size());
                if (lot == 2) {
                    turn(s, m);
                } else {
                    push(s, m, draw(r, 5) - 2);
                }
            }
        }
        tell(s.mourners.stream().filter(m -> m.ended >= 0).count(), Integer.bitCount(s.rightOnes()));
        return s.arrived();
    }

    private static int draw(int[] r, int n) {
        r[0] = (int) (r[0] * 1103515245L + 12345L);
        return (int) ((r[0] & 0xFFFFFFFFL) / 65536 % n);
    }

    // ---- kept

    boolean keep(int i) {
        if (i < 0 || i > 2) {
            return false;
        }
        kept[i] = state.copy();
        return true;
    }

    boolean again(int i) {
        if (i < 0 || i > 2 || kept[i] == null || kept[i].hearses.size() < state.hearses.size()
            || kept[i].mourners.size() < state.mourners.size()) {
            return false;
        }
        state = kept[i].copy();
        done.clear();
        return true;
    }

    int count(int what) {
        int[] all = {street.length(), state.hearses.size(), state.mourners.size(), state.step, state.arrived(),
            (int) state.mourners.stream().filter(m -> m.ended >= 0).count(), Integer.bitCount(state.rightOnes()),
            street.replace(".", "").length(), weather.charAt(state.step % weather.length()) - '0', heard.size(), done.size(),
            row.size(), text.length()};
        return what < 0 || what >= all.length ? -100 : all[what];
    }

    long row(int i) {
        if (i < 0 || i >= row.size()) {
            throw new NoSuchElementException();
        }
        return row.get(i);
    }
}
