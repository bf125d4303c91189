import java.util.ArrayList;
import java.util.List;
import java.util.NoSuchElementException;
import java.util.Random;

/** Runs of calls drawn by seeds, each answer compared with that of the Model: every promise, in every mixture. */
public final class ModelTest {
    private static final String[] RULES = {"", "1", "2", "3", "1+(g>2)", "1+w", "w", "t/3", "3-c*3", "i+1", "m", "1+m", "3-m",
        "g", "g/2", "3-i", "(t=3)*3", "p<5", "1+(t>4)", "-m+3", "w-t", "c+(g>0)*2", "2+(w>5)-c", "3*(i=t/2)", "2-(p>6)", "0",
        "(1+(2*(g>3)))-(m>2)", "t*w/9", "3-(m=0)*3", "1+(i=0)*2"};

    private final Random random;
    private final BehindAnotherHearse x = new BehindAnotherHearse();
    private final Model y = new Model();
    private final List<String> calls = new ArrayList<>();
    private boolean wrong = false;

    private ModelTest(long seed) {
        random = new Random(seed);
    }

    public static void main(String[] args) {
        long first = args.length > 0 ? Long.parseLong(args[0]) : 1;
        long runs = args.length > 1 ? Long.parseLong(args[1]) : 500;
        for (long seed = first; seed < first + runs; seed++) {
            ModelTest run = new ModelTest(seed);
            run.makeRun();
            if (run.wrong) {
                System.out.println("seed " + seed + ", calls:");
                run.calls.forEach(c -> System.out.println("  " + c));
                System.exit(1);
            }
        }
        System.out.println(runs + " runs answer as the model does");
    }

    private interface Answer {
        long give();
    }

    /** An answer of -999999 stands for NoSuchElementException; anything else that is thrown ends the test. */
    private static long answer(Answer a) {
        try {
            return a.give();
        } catch (NoSuchElementException e) {
            return -999999;
        }
    }

    private void both(String call, Answer one, Answer other) {
        if (wrong) {
            return;
        }
        long got = answer(one);
        long want = answer(other);
        calls.add(call + " = " + got);
        if (got != want) {
            wrong = true;
            System.out.println(call + " answered " + got + ", the model " + want);
        }
    }

    private int below(int n) {
        return random.nextInt(n);
    }

    private String pick(String... of) {
        return of[below(of.length)];
    }

    private void text(String t) {
        Due.text(x, t);
        y.end(0);
        for (int i = 0; i < t.length(); i += 4) {
            int v = 0;
            for (int k = 0; k < 4; k++) {
                v = v << 8 | (i + k < t.length() ? t.charAt(i + k) & 255 : 0);
            }
            y.sign(v);
        }
        y.end(t.length());
        calls.add("text " + t);
        both("count(12)", () -> x.count(12), () -> y.count(12));
    }

    /** Mostly as it was; now and then a sign is another one, or missing, or one too many. */
    private String spoilt(String t) {
        if (below(8) > 0) {
            return t;
        }
        String signs = ".c;0123456789abcdefgimnptwx+-*/<>=()~ \u00ff";
        String sign = "" + signs.charAt(below(signs.length()));
        int p = t.isEmpty() ? 0 : below(t.length());
        switch (below(4)) {
            case 0:
                return t.substring(0, p) + sign + t.substring(p);
            case 1:
                return t.isEmpty() ? t : t.substring(0, p) + sign + t.substring(p + 1);
            case 2:
                return t.isEmpty() ? t : t.substring(0, p) + t.substring(p + 1);
            default:
                return t + sign;
        }
    }

    private void avenue() {
        int cells = below(6) == 0 ? 4 + below(27) : 4 + below(14);
        int corners = below(4);
        StringBuilder t = new StringBuilder();
        for (int i = 0; i < cells; i++) {
            t.append(below(8) < corners ? 'c' : '.');
        }
        text(spoilt(t.toString()));
        both("avenue()", x::avenue, y::avenue);
    }

    private String number(int most) {
        int n = below(most + (below(5) == 0 ? 3 : 0));
        return n < 10 && below(6) == 0 ? "0" + n : "" + n;
    }

    private void hearses(int most) {
        List<String> lines = new ArrayList<>();
        for (int i = 1 + below(most); i > 0; i--) {
            String cell = number(Math.max(1, y.count(0) - 1));
            if (below(6) == 0 || !lines.contains(cell)) {
                lines.add(cell);
            }
        }
        text(spoilt(String.join(";", lines)));
        both("hearses()", x::hearses, y::hearses);
    }

    private void mourners(int most) {
        List<String> lines = new ArrayList<>();
        for (int i = 1 + below(most); i > 0; i--) {
            int owns = Math.max(1, y.count(1) + (below(30) == 0 ? 1 : 0));
            int cell = below(Math.max(1, y.count(0) - 1 + (below(40) == 0 ? 2 : 0)));
            lines.add("" + cell + (char) ('a' + below(owns)));
        }
        text(spoilt(String.join(";", lines)));
        both("mourners()", x::mourners, y::mourners);
    }

    private String expression(int depth) {
        switch (below(depth > 5 ? 2 : 9)) {
            case 0:
                return "" + below(below(4) == 0 ? 1100 : 5);
            case 1:
                return pick("p", "g", "c", "w", "t", "i", "m");
            case 2:
                return "-" + expression(depth + 1);
            case 3:
                return "(" + expression(depth + 1) + ")";
            case 4:
                return expression(depth + 2) + pick("<", ">", "=") + expression(depth + 2);
            default:
                return expression(depth + 2) + pick("+", "-", "*", "/") + expression(depth + 2);
        }
    }

    private String ruleText() {
        String t = below(3) == 0 ? expression(0) : RULES[below(RULES.length)];
        t = t.length() > 78 ? t.substring(0, 78) : t;
        return spoilt(t);
    }

    private void weather() {
        StringBuilder t = new StringBuilder();
        for (int i = below(10) == 0 ? 19 + below(3) : 1 + below(5); i > 0; i--) {
            t.append((char) ('0' + below(10)));
        }
        text(spoilt(t.toString()));
        both("weather()", x::weather, y::weather);
    }

    private void hour() {
        StringBuilder t = new StringBuilder();
        for (int i = below(20) == 0 ? 15 + below(12) : below(7); i > 0; i--) {
            int m = below(y.count(2) + 1) % 10;
            switch (below(5)) {
                case 0:
                    t.append('n').append(below(4));
                    break;
                case 1:
                    t.append('t').append(m);
                    break;
                case 2:
                    t.append(pick("p", "b")).append(m).append(below(12) == 0 ? 0 : 1 + below(9));
                    break;
                case 3:
                    t.append('x').append(below(y.count(1) + 1)).append(below(y.count(1) + 1));
                    break;
                default:
                    t.append('n').append(below(10) == 0 ? 9 : 1);
            }
        }
        text(spoilt(t.toString()));
        both("hour()", x::hour, y::hour);
    }

    private void makeRun() {
        avenue();
        hearses(4);
        mourners(8);
        text(ruleText());
        both("rule()", x::rule, y::rule);
        if (below(2) == 0) {
            weather();
        }
        for (int k = 0; k < 50 && !wrong; k++) {
            change();
            ask();
            check();
        }
    }

    private int mournerOrNone() {
        return below(y.count(2) + 2) - (below(8) == 0 ? 1 : 0);
    }

    private int hearseOrNone() {
        return below(y.count(1) + 1) - (below(12) == 0 ? 1 : 0);
    }

    private int near(int low, int high) {
        return below(12) == 0 ? pickInt(low - 1, high + 1, -2147483648, 2147483647) : low + below(high - low + 1);
    }

    private int pickInt(int... of) {
        return of[below(of.length)];
    }

    private void change() {
        int m = mournerOrNone();
        int h = hearseOrNone();
        int g = hearseOrNone();
        switch (below(19)) {
            case 0:
            case 1:
            case 2: {
                int n = below(12) == 0 ? near(0, 60) : below(4);
                both("steps(" + n + ")", () -> x.steps(n), () -> y.steps(n));
                break;
            }
            case 3:
            case 4:
                both("turnsTo(" + m + ")", () -> x.turnsTo(m), () -> y.turnsTo(m));
                break;
            case 5: {
                int v = near(-9, 9);
                both("pushes(" + m + ", " + v + ")", () -> x.pushes(m, v), () -> y.pushes(m, v));
                break;
            }
            case 6:
                both("swaps(" + h + ", " + g + ")", () -> x.swaps(h, g), () -> y.swaps(h, g));
                break;
            case 7:
            case 8:
                hour();
                break;
            case 9:
            case 10:
                both("undo()", x::undo, y::undo);
                break;
            case 11: {
                int kind = near(0, 3);
                int n = near(0, 8);
                int f = below(2) == 0 ? below(20) - 4 : random.nextInt();
                int step = below(2) == 0 ? below(7) - 3 : random.nextInt();
                both("sheet(" + kind + ", " + n + ", " + f + ", " + step + ")",
                    () -> x.sheet(kind, n, f, step), () -> y.sheet(kind, n, f, step));
                break;
            }
            case 12: {
                int i = near(0, 2);
                both("keep(" + i + ")", () -> x.keep(i) ? 1 : 0, () -> y.keep(i) ? 1 : 0);
                break;
            }
            case 13: {
                int i = near(0, 2);
                both("again(" + i + ")", () -> x.again(i) ? 1 : 0, () -> y.again(i) ? 1 : 0);
                break;
            }
            case 14: {
                int what = near(0, 3);
                int v = below(3) == 0 ? near(0, 8) : below(3);
                both("heard(" + what + ", " + v + ")", () -> x.heard(what, v), () -> y.heard(what, v));
                break;
            }
            case 15:
                if (below(3) == 0) {
                    both("forget()", x::forget, y::forget);
                }
                break;
            case 16:
                if (below(3) == 0) {
                    text(ruleText());
                    both("rule()", x::rule, y::rule);
                }
                break;
            case 17:
                changeTold();
                break;
            default: {
                int v = random.nextInt();
                int n = below(90) - 2;
                both("sign(" + v + ")", () -> x.sign(v), () -> y.sign(v));
                both("end(" + n + ")", () -> x.end(n) ? 1 : 0, () -> y.end(n) ? 1 : 0);
            }
        }
    }

    private void changeTold() {
        switch (below(6)) {
            case 0:
                avenue();
                hearses(4);
                mourners(8);
                break;
            case 1:
                hearses(2);
                break;
            case 2:
                mourners(2);
                break;
            case 3:
                text("");
                both("hearses()", x::hearses, y::hearses);
                both("mourners()", x::mourners, y::mourners);
                break;
            default:
                weather();
        }
    }

    private void ask() {
        int m = mournerOrNone();
        int h = hearseOrNone();
        int g = hearseOrNone();
        switch (below(23)) {
            case 0:
                both("line()", x::line, y::line);
                break;
            case 1: {
                int n = near(0, 99);
                both("ahead(" + n + ")", () -> x.ahead(n), () -> y.ahead(n));
                break;
            }
            case 2:
                both("arrives(" + h + ")", () -> x.arrives(h), () -> y.arrives(h));
                break;
            case 3: {
                int n = near(1, 60);
                both("jam(" + n + ")", () -> x.jam(n), () -> y.jam(n));
                break;
            }
            case 4:
            case 5:
                both("passes(" + h + ", " + g + ")", () -> x.passes(h, g), () -> y.passes(h, g));
                break;
            case 6:
            case 7:
                both("ends(" + m + ")", () -> x.ends(m), () -> y.ends(m));
                break;
            case 8:
                both("right()", x::right, y::right);
                break;
            case 9:
                if (y.line() < 5 || below(20) == 0) {
                    both("order()", x::order, y::order);
                } else {
                    both("line()", x::line, y::line);
                }
                break;
            case 10:
                both("stands(" + m + ")", () -> x.stands(m), () -> y.stands(m));
                break;
            case 11:
                both("when(" + m + ")", () -> x.when(m), () -> y.when(m));
                break;
            case 12: {
                int k = below(3) == 0 ? near(0, 8) : below(4);
                both("mends(" + k + ")", () -> x.mends(k), () -> y.mends(k));
                break;
            }
            case 13:
                both("misleads()", x::misleads, y::misleads);
                break;
            case 14:
                both("crowd()", x::crowd, y::crowd);
                break;
            default:
                askMore();
        }
    }

    private void askMore() {
        switch (below(8)) {
            case 0: {
                int v = below(4) == 0 ? near(0, 30) : below(4);
                both("shares(" + v + ")", () -> x.shares(v), () -> y.shares(v));
                break;
            }
            case 1:
                both("strangers()", x::strangers, y::strangers);
                break;
            case 2:
                both("doubts()", x::doubts, y::doubts);
                break;
            case 3:
                both("fits()", x::fits, y::fits);
                break;
            case 4: {
                int n = near(1, 12);
                int k = below(2) == 0 ? near(0, 12) : below(n < 1 || n > 12 ? 3 : n + 1);
                int p = near(0, 10);
                both("rains(" + n + ", " + k + ", " + p + ")", () -> x.rains(n, k, p), () -> y.rains(n, k, p));
                break;
            }
            case 5:
                text(ruleText());
                both("law()", x::law, y::law);
                break;
            case 6: {
                int v = near(0, 20);
                both("rests(" + v + ")", () -> x.rests(v), () -> y.rests(v));
                break;
            }
            default: {
                int seed = random.nextInt();
                int n = near(1, 60);
                both("years(" + seed + ", " + n + ")", () -> x.years(seed, n), () -> y.years(seed, n));
            }
        }
    }

    private void check() {
        for (int what = -1; what < 14; what++) {
            int w = what;
            both("count(" + w + ")", () -> x.count(w), () -> y.count(w));
            calls.remove(calls.size() - 1);
        }
        for (int i = -1; i < 9; i++) {
            int n = i;
            both("row(" + n + ")", () -> x.row(n), () -> y.row(n));
            calls.remove(calls.size() - 1);
        }
        for (int i = -1; i < 9; i++) {
            for (int w = -1; w < 7; w++) {
                int n = i;
                int what = w;
                both("hearse(" + n + ", " + what + ")", () -> x.hearse(n, what), () -> y.hearse(n, what));
                both("mourner(" + n + ", " + what + ")", () -> x.mourner(n, what), () -> y.mourner(n, what));
                if (!wrong) {
                    calls.remove(calls.size() - 1);
                    calls.remove(calls.size() - 1);
                }
            }
        }
    }
}
