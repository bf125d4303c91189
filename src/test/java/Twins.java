import java.util.ArrayList;
import java.util.List;
import java.util.NoSuchElementException;

/**
 * Objects that were told the same, so that what one more call has left behind in one of them shows.
 * Each way of looking keeps an object under the document's 512 calls, so each wants new twins.
 */
final class Twins {
    /** How many objects build() can make. */
    static final int KINDS = 5;
    static final String[] NAMES = {"a new object", "nothing done yet", "in the midst", "all is full", "all have ARRIVED"};

    private static final long THROWN = -999999;

    private Twins() {
    }

    static BehindAnotherHearse build(int kind) {
        switch (kind) {
            case 0:
                return new BehindAnotherHearse();
            case 1:
                return told("..c.......", "0;4;7", "1a;3c;6b;8a", "");
            case 2:
                return midst();
            case 3:
                return full();
            default:
                BehindAnotherHearse x = told("......", "1;3", "0b;0a;3b", "1");
                x.steps(1);
                x.keep(1);
                x.steps(20);
                x.right();
                return x;
        }
    }

    private static BehindAnotherHearse told(String avenue, String hearses, String mourners, String rule) {
        BehindAnotherHearse x = new BehindAnotherHearse();
        Due.avenue(x, avenue);
        Due.hearses(x, hearses);
        Due.mourners(x, mourners);
        Due.rule(x, rule);
        return x;
    }

    private static BehindAnotherHearse midst() {
        BehindAnotherHearse x = told("...c........", "9;6;0;2", "9a;5b;0c;2d;7a", "1+(w>2)*(t<5)-(m>3)");
        Due.weather(x, "31725");
        x.keep(0);
        x.steps(2);
        x.turnsTo(2);
        x.pushes(3, 2);
        x.heard(0, 1);
        x.heard(3, 0);
        x.keep(2);
        x.steps(1);
        x.swaps(1, 3);
        x.doubts();
        x.line();
        return x;
    }

    private static BehindAnotherHearse full() {
        BehindAnotherHearse x = told("..............................", "10;11;12;13;14;15",
            "00a;01b;02c;03d;04e;05f;06a;07b", "-(1-2)*(p>w)+(t=3)*(i<4)");
        Due.weather(x, "12345678909876543210");
        for (int k = 0; k < 8; k++) {
            x.heard(k % 3 == 1 ? 2 : 0, k % 2);
        }
        for (int k = 0; k < 16; k++) {
            if (k < 3) {
                x.keep(k);
            }
            x.pushes(k % 8, 1 + k % 2);
        }
        x.shares(30);
        return x;
    }

    private interface Answer {
        long give();
    }

    private static long answer(Answer a) {
        try {
            return a.give();
        } catch (NoSuchElementException e) {
            return THROWN;
        }
    }

    /** What can be seen without a change, at most 123 calls. */
    static List<Long> seen(BehindAnotherHearse x) {
        List<Long> all = new ArrayList<>();
        for (int what = 0; what < 13; what++) {
            all.add((long) x.count(what));
        }
        for (int i = 0; i < 9; i++) {
            int n = i;
            all.add(answer(() -> x.row(n)));
        }
        for (int hearse = 0; hearse < x.count(1); hearse++) {
            for (int what = 0; what < 6; what++) {
                all.add((long) x.hearse(hearse, what));
            }
        }
        for (int mourner = 0; mourner < x.count(2); mourner++) {
            for (int what = 0; what < 5; what++) {
                all.add((long) x.mourner(mourner, what));
            }
        }
        return all;
    }

    /** HEARSES, MOURNERS and STEP in few calls. */
    private static void addScene(List<Long> all, BehindAnotherHearse x, int hearses, int mourners) {
        all.add((long) x.count(3));
        for (int hearse = 0; hearse < hearses; hearse++) {
            all.add((long) x.hearse(hearse, 0));
            all.add((long) x.hearse(hearse, 3));
        }
        for (int mourner = 0; mourner < mourners; mourner++) {
            all.add((long) x.mourner(mourner, 0));
        }
    }

    /** How many ways of looking there are. */
    static final int WAYS = 3;

    /** All that one way of looking brings to light; the object is used up by it. */
    static List<Long> looked(BehindAnotherHearse x, int way) {
        List<Long> all = new ArrayList<>();
        if (way == 0) {
            all.addAll(seen(x));
            all.add((long) x.fits());
            all.add(x.row(0));
            all.add((long) x.forget());
            for (int k = 0; k < 21; k++) {
                all.add((long) x.steps(1));
                all.add((long) x.count(8));
                addScene(all, x, x.count(1) > 2 ? 2 : x.count(1), 0);
            }
        } else if (way == 1) {
            int hearses = x.count(1);
            int mourners = x.count(2);
            for (int left = 99; left >= 0 && all.size() < 1000; ) {
                left = x.undo();
                all.add((long) left);
                addScene(all, x, hearses, mourners);
            }
        } else {
            for (int i = 0; i < 3; i++) {
                all.add(x.again(i) ? 1L : 0L);
                addScene(all, x, x.count(1), x.count(2));
            }
            all.add((long) x.steps(7));
            all.addAll(seen(x));
        }
        return all;
    }
}
