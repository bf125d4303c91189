import java.util.NoSuchElementException;

/**
 * Funerals of a city on one avenue: hearses overtake in its quiet parts, mourners follow whichever is the nearest.
 * What each call promises stands in the project's document; README.md tells how to use the class.
 */
public final class BehindAnotherHearse {
    public static final int NONE = -1;

    private static final int MAX_CELLS = 30;
    private static final int MIN_CELLS = 4;
    private static final int MAX_HEARSES = 6;
    private static final int MAX_MOURNERS = 8;
    private static final int MAX_WEATHER = 20;
    private static final int MAX_HEARD = 8;
    private static final int MAX_UNDONE = 15;
    private static final int MAX_KEPT = 3;
    private static final int MAX_PACE = 3;
    private static final int MAX_DEPTH = 4;
    private static final int MAX_SPEED = 9;

    private static final int TEXT_SIGNS = 80;
    private static final int HEARSES_SIGNS = 17;
    private static final int MOURNERS_SIGNS = 39;
    private static final int RULE_SIGNS = 40;
    private static final int HOUR_SIGNS = 60;
    private static final int NO_SIGN = -1;

    private static final int THE_END = 200;
    private static final int MAX_STEPS = 60;
    private static final int MAX_AHEAD = 99;
    private static final int ORDERS_OF_SIX = 720;

    private static final int FOLLOWED_NONE = -4;

    private final Text text = new Text();
    private final Street street = new Street();
    private final Scene now = new Scene();
    private final Scene trial = new Scene();
    private final Scene base = new Scene();
    private final Scene before = new Scene();
    private final Walker walker = new Walker(street);
    private final History history = new History();
    private final Scene[] kept = new Scene[MAX_KEPT];
    private final boolean[] isKept = new boolean[MAX_KEPT];
    private final Row told = new Row();
    private final Sharing sharing = new Sharing();
    private final Orders orders = new Orders();
    private final Hearsay hearsay = new Hearsay();
    private final RuleReader ruleReader = new RuleReader();
    private int drawn = 0;
    private Law rules = new Law();
    private Law otherRules = new Law();

    public BehindAnotherHearse() {
        for (int i = 0; i < MAX_KEPT; i++) {
            kept[i] = new Scene();
        }
        rules.becomePlain();
        otherRules.becomePlain();
    }

    // ---- the avenue, hearses, mourners, weather

    public int sign(int v) {
        return text.addFour(v) ? text.length : NONE;
    }

    public boolean end(int n) {
        return text.cutTo(n);
    }

    public int avenue() {
        int fault = avenueFault();
        int cells = text.length;
        if (fault == NONE) {
            street.become(text);
            now.clear();
            history.clear();
            forgetKept();
        }
        text.clear();
        return fault == NONE ? cells : -1 - fault;
    }

    private int avenueFault() {
        for (int p = 0; p < text.length; p++) {
            int sign = text.signAt(p);
            if (p == MAX_CELLS || sign != '.' && sign != 'c') {
                return p;
            }
        }
        return text.length < MIN_CELLS ? text.length : NONE;
    }

    private void forgetKept() {
        for (int i = 0; i < MAX_KEPT; i++) {
            isKept[i] = false;
        }
    }

    public int hearses() {
        int answer = text.isEmpty() ? 0 : readLines(true);
        text.clear();
        return answer;
    }

    public int mourners() {
        int answer = text.isEmpty() ? 0 : readLines(false);
        text.clear();
        return answer;
    }

    // Lines are read into a trial, so that nothing of the text comes if a later line can't.
    private int readLines(boolean ofHearses) {
        trial.copyFrom(now);
        text.open(ofHearses ? HEARSES_SIGNS : MOURNERS_SIGNS);
        int lines = 0;
        boolean more = true;
        while (more && lines <= TEXT_SIGNS) {
            if (!(ofHearses ? readHearse() : readMourner())) {
                return -1 - text.at;
            }
            lines++;
            more = text.skip(';');
        }
        if (!text.isWhole()) {
            return -1 - text.at;
        }
        now.copyFrom(trial);
        history.clear();
        return lines;
    }

    private boolean readHearse() {
        if (trial.hearseCount >= MAX_HEARSES) {
            return false;
        }
        int cell = readCell();
        if (cell == NONE) {
            return false;
        }
        if (trial.hearseOn(cell) != NONE) {
            text.back();
            return false;
        }
        trial.addHearse(cell);
        return true;
    }

    private boolean readMourner() {
        if (trial.mournerCount >= MAX_MOURNERS) {
            return false;
        }
        int cell = readCell();
        int own = text.look() - 'a';
        if (cell == NONE || own < 0 || own >= trial.hearseCount) {
            return false;
        }
        text.pass();
        trial.addMourner(cell, own);
        return true;
    }

    // A cell that is not there is faulted at its last digit, so the text steps back to it.
    private int readCell() {
        int cell = text.number(2);
        if (cell >= street.gate()) {
            text.back();
            return NONE;
        }
        return cell;
    }

    public int weather() {
        int fault = weatherFault();
        int signs = text.length;
        if (fault == NONE) {
            street.takeWeather(text);
        }
        text.clear();
        return fault == NONE ? signs : -1 - fault;
    }

    private int weatherFault() {
        for (int p = 0; p < text.length; p++) {
            int sign = text.signAt(p);
            if (p == MAX_WEATHER || sign < '0' || sign > '9') {
                return p;
            }
        }
        return text.isEmpty() ? 0 : NONE;
    }

    public int rule() {
        int fault = ruleReader.read(text, otherRules);
        text.clear();
        if (fault != NONE) {
            return -1 - fault;
        }
        Law former = rules;
        rules = otherRules;
        otherRules = former;
        return 0;
    }

    public int hearse(int hearse, int what) throws NoSuchElementException {
        if (!now.isHearse(hearse)) {
            throw new NoSuchElementException("no such hearse");
        }
        switch (what) {
            case 0:
                return now.cell[hearse];
            case 1:
                return now.rank[hearse];
            case 2:
                return paceNow(hearse);
            case 3:
                return now.bitsOf(now.follows, hearse);
            case 4:
                return now.bitsOf(now.grave, hearse);
            case 5:
                return now.bitsOf(now.own, hearse);
            default:
                throw new NoSuchElementException("no such thing of a hearse");
        }
    }

    private int paceNow(int hearse) {
        if (now.hasArrived(hearse)) {
            return 0;
        }
        rules.observe(now, street, hearse);
        return rules.pace();
    }

    public int mourner(int mourner, int what) throws NoSuchElementException {
        if (!now.isMourner(mourner)) {
            throw new NoSuchElementException("no such mourner");
        }
        switch (what) {
            case 0:
                return now.place[mourner];
            case 1:
                return now.own[mourner];
            case 2:
                return now.follows[mourner];
            case 3:
                return now.grave[mourner];
            case 4:
                return now.nearestTo(now.place[mourner]);
            default:
                throw new NoSuchElementException("no such thing of a mourner");
        }
    }

    public int sheet(int kind, int n, int f, int step) {
        if (kind < 0 || kind > 3 || n > MAX_MOURNERS) {
            return NONE;
        }
        if (kind < 3 && n < 0) {
            return -2;
        }
        int entries = kind == 3 ? 0 : n;
        int sum = 0;
        for (int mourner = 0; mourner < now.mournerCount; mourner++) {
            if (!now.hasEnded(mourner)) {
                now.place[mourner] = mourner < entries ? cellOfEntry(kind, f + mourner * step) : 0;
            }
            sum += now.place[mourner];
        }
        return kind == 3 ? -3 : sum;
    }

    private int cellOfEntry(int kind, int entry) {
        int value = entry;
        if (kind == 0) {
            value = (byte) entry;
        } else if (kind == 1) {
            value = (short) entry;
        }
        return street.putOnStreet(value);
    }

    // ---- steps

    public int steps(int n) {
        if (n < 0 || n > MAX_STEPS) {
            return NONE;
        }
        before.copyFrom(now);
        walker.walk(now, rules, n);
        told.tellTwo(walker.waits, walker.changes);
        return undoable(now.arrivedCount);
    }

    public int turnsTo(int mourner) {
        before.copyFrom(now);
        return undoable(now.turn(mourner));
    }

    public int pushes(int mourner, int v) {
        before.copyFrom(now);
        return undoable(now.shove(mourner, v, street));
    }

    public int swaps(int one, int other) {
        before.copyFrom(now);
        return undoable(now.exchange(one, other));
    }

    private static boolean isDone(int answer) {
        return answer >= 0 || answer == FOLLOWED_NONE;
    }

    private int undoable(int answer) {
        if (isDone(answer)) {
            history.add(before);
        }
        return answer;
    }

    // The text is read twice: nothing is done if a later sign can't stand.
    public int hour() {
        int fault = hourFault();
        int done = 0;
        boolean refused = false;
        before.copyFrom(now);
        text.open(HOUR_SIGNS);
        for (int n = 0; n < HOUR_SIGNS && fault == NONE && !refused && !text.isRead(); n++) {
            refused = !isDone(doAct());
            done += refused ? 0 : 1;
        }
        text.clear();
        if (fault != NONE) {
            return -1 - fault;
        }
        if (done > 0) {
            history.add(before);
        }
        told.tellTwo(refused ? 1 : 0, now.step);
        return done;
    }

    private int hourFault() {
        text.open(HOUR_SIGNS);
        for (int n = 0; n < HOUR_SIGNS && !text.isRead(); n++) {
            if (!passAct()) {
                return text.at;
            }
        }
        return text.isWhole() ? NONE : text.at;
    }

    private boolean passAct() {
        int act = text.look();
        boolean isPush = act == 'p' || act == 'b';
        if (!isPush && act != 'n' && act != 't' && act != 'x') {
            return false;
        }
        text.pass();
        if (text.digit() == NONE || isPush && text.look() == '0') {
            return false;
        }
        return !isPush && act != 'x' || text.digit() != NONE;
    }

    private int doAct() {
        int act = text.look();
        text.pass();
        int first = text.digit();
        switch (act) {
            case 'n':
                walker.walk(now, rules, first);
                return now.arrivedCount;
            case 't':
                return now.turn(first);
            case 'p':
                return now.shove(first, text.digit(), street);
            case 'b':
                return now.shove(first, -text.digit(), street);
            default:
                return now.exchange(first, text.digit());
        }
    }

    public int undo() {
        return history.takeBack(now) ? history.count : NONE;
    }

    // ---- the line

    public int line() {
        told.clear();
        int limit = street.cells;
        for (int k = 0; k < MAX_HEARSES; k++) {
            int hearse = now.foremostBelow(limit);
            if (hearse == NONE) {
                break;
            }
            limit = now.cell[hearse];
            told.add(hearse);
        }
        return told.size;
    }

    public int ahead(int n) {
        if (n < 0 || n > MAX_AHEAD) {
            return NONE;
        }
        trial.copyFrom(now);
        walker.walk(trial, rules, n);
        told.clear();
        for (int hearse = 0; hearse < trial.hearseCount; hearse++) {
            told.add(trial.cell[hearse]);
        }
        return trial.arrivedCount;
    }

    public int arrives(int hearse) {
        if (!now.isHearse(hearse)) {
            return NONE;
        }
        trial.copyFrom(now);
        int n = 0;
        while (n < THE_END && !trial.hasArrived(hearse)) {
            walker.advance(trial, rules);
            n++;
        }
        if (!trial.hasArrived(hearse)) {
            return -2;
        }
        told.tellOne(trial.rank[hearse]);
        return n;
    }

    public int jam(int n) {
        if (n < 1 || n > MAX_STEPS) {
            return NONE;
        }
        trial.copyFrom(now);
        walker.walk(trial, rules, n);
        int worst = 0;
        for (int cell = 1; cell < street.cells; cell++) {
            if (walker.waitsOn[cell] > walker.waitsOn[worst]) {
                worst = cell;
            }
        }
        told.tellTwo(walker.waitsOn[worst], walker.waits);
        return worst;
    }

    public int passes(int one, int other) {
        if (!now.isHearse(one) || !now.isHearse(other) || one == other) {
            return NONE;
        }
        if (now.hasArrived(one) || now.hasArrived(other) || now.cell[one] > now.cell[other]) {
            return -2;
        }
        trial.copyFrom(now);
        for (int n = 1; n <= MAX_STEPS; n++) {
            walker.advance(trial, rules);
            if (trial.isAheadOf(one, other)) {
                told.tellOne(trial.cell[one]);
                return n;
            }
        }
        return -2;
    }

    // ---- who ends where

    public int ends(int mourner) {
        if (!now.isMourner(mourner)) {
            return NONE;
        }
        trial.copyFrom(now);
        walker.forgetTallies();
        int n = 0;
        while (n < THE_END && !trial.hasEnded(mourner)) {
            walker.advance(trial, rules);
            n++;
        }
        if (!trial.hasEnded(mourner)) {
            return -2;
        }
        told.tellTwo(n, walker.changesOf[mourner]);
        return trial.grave[mourner];
    }

    public int right() {
        trial.copyFrom(now);
        int rightOnes = rightOnesOfTrial(rules);
        told.tellTwo(rightOnes, trial.wrongBits());
        return Integer.bitCount(rightOnes);
    }

    private int rightOnesOfTrial(Law law) {
        walker.toEnd(trial, law);
        return trial.rightBits();
    }

    // Orders are tried from the least row on, so only a better one takes the place of the best.
    public int order() {
        orders.begin(now, street);
        int best = NONE;
        boolean more = true;
        for (int k = 0; k < ORDERS_OF_SIX && more && best < now.mournerCount; k++) {
            trial.copyFrom(now);
            trial.placeHearses(orders.cells);
            int good = Integer.bitCount(rightOnesOfTrial(rules));
            if (good > best) {
                best = good;
                orders.markBest();
            }
            more = orders.toNext();
        }
        told.clear();
        for (int i = 0; i < orders.size; i++) {
            told.add(orders.best[i]);
        }
        return best;
    }

    public int stands(int mourner) {
        if (!now.isMourner(mourner)) {
            return NONE;
        }
        if (now.hasEnded(mourner)) {
            return -2;
        }
        int least = NONE;
        int good = 0;
        for (int cell = street.gate() - 1; cell >= 0; cell--) {
            trial.copyFrom(now);
            trial.place[mourner] = cell;
            trial.follows[mourner] = NONE;
            walker.toEnd(trial, rules);
            if (trial.isRight(mourner)) {
                least = cell;
                good++;
            }
        }
        if (good == 0) {
            return -2;
        }
        told.tellOne(good);
        return least;
    }

    public int when(int mourner) {
        if (!now.isMourner(mourner)) {
            return NONE;
        }
        base.copyFrom(now);
        int least = NONE;
        int last = NONE;
        for (int n = 0; n <= MAX_STEPS; n++) {
            trial.copyFrom(base);
            if (isTurned(mourner)) {
                walker.toEnd(trial, rules);
                if (trial.isRight(mourner)) {
                    least = least == NONE ? n : least;
                    last = n;
                }
            }
            walker.advance(base, rules);
        }
        if (least == NONE) {
            return -2;
        }
        told.tellOne(last);
        return least;
    }

    private boolean isTurned(int mourner) {
        boolean followsOwn = !trial.hasEnded(mourner) && trial.follows[mourner] == trial.own[mourner];
        return followsOwn || isDone(trial.turn(mourner));
    }

    public int mends(int k) {
        if (k < 0 || k > MAX_MOURNERS) {
            return NONE;
        }
        int able = ableToTurn();
        for (int many = 0; many <= now.mournerCount; many++) {
            for (int bits = 0; bits < 1 << now.mournerCount; bits++) {
                boolean isOne = (bits & ~able) == 0 && Integer.bitCount(bits) == many;
                if (isOne) {
                    turnInTrial(bits);
                    if (Integer.bitCount(rightOnesOfTrial(rules)) >= k) {
                        told.tellOne(bits);
                        return many;
                    }
                }
            }
        }
        return -2;
    }

    private int ableToTurn() {
        trial.copyFrom(now);
        int bits = 0;
        for (int mourner = 0; mourner < now.mournerCount; mourner++) {
            bits |= isDone(trial.turn(mourner)) ? 1 << mourner : 0;
        }
        return bits;
    }

    private void turnInTrial(int bits) {
        trial.copyFrom(now);
        for (int mourner = 0; mourner < now.mournerCount; mourner++) {
            if ((bits >> mourner & 1) == 1) {
                trial.turn(mourner);
            }
        }
    }

    public int misleads() {
        trial.copyFrom(now);
        int rightAsItIs = rightOnesOfTrial(rules);
        int worst = NONE;
        int most = NONE;
        for (int hearse = 0; hearse < now.hearseCount; hearse++) {
            if (!now.hasArrived(hearse)) {
                trial.copyFrom(now);
                trial.takeAway(hearse);
                int good = Integer.bitCount(rightOnesOfTrial(rules) & ~now.bitsOf(now.own, hearse));
                worst = good > most ? hearse : worst;
                most = Math.max(most, good);
            }
        }
        if (worst == NONE) {
            return -2;
        }
        told.tellTwo(most, Integer.bitCount(rightAsItIs & ~now.bitsOf(now.own, worst)));
        return worst;
    }

    public int crowd() {
        if (now.hearseCount == 0) {
            return -2;
        }
        trial.copyFrom(now);
        walker.toEnd(trial, rules);
        int first = 0;
        int most = NONE;
        for (int hearse = 0; hearse < trial.hearseCount; hearse++) {
            int many = Integer.bitCount(trial.bitsOf(trial.grave, hearse));
            first = many > most ? hearse : first;
            most = Math.max(most, many);
        }
        told.tellTwo(most, Integer.bitCount(trial.rightBits() & trial.bitsOf(trial.own, first)));
        return first;
    }

    // ---- near ones

    public int shares(int v) {
        if (v < 0 || v > MAX_CELLS) {
            return NONE;
        }
        int many = sharing.weigh(now, v);
        told.clear();
        int taken = 0;
        for (int mourner = 0; mourner < now.mournerCount; mourner++) {
            int hearse = sharing.choice(now, mourner, taken);
            taken |= hearse == NONE ? 0 : 1 << hearse;
            told.add(hearse);
        }
        return many;
    }

    public int strangers() {
        int least = MAX_CELLS;
        for (int one = 0; one < now.mournerCount; one++) {
            for (int other = one + 1; other < now.mournerCount; other++) {
                boolean areStrangers = !now.hasEnded(one) && !now.hasEnded(other) && now.own[one] != now.own[other];
                int apart = Math.abs(now.place[one] - now.place[other]);
                if (areStrangers && apart < least) {
                    least = apart;
                    told.tellTwo(one, other);
                }
            }
        }
        return least < MAX_CELLS ? least : -2;
    }

    public int doubts() {
        int bits = 0;
        for (int mourner = 0; mourner < now.mournerCount; mourner++) {
            bits |= now.isInDoubt(mourner) ? 1 << mourner : 0;
        }
        told.tellOne(Integer.bitCount(bits));
        return bits;
    }

    // ---- whose it was

    public int heard(int what, int v) {
        return hearsay.add(what, v) ? hearsay.count : NONE;
    }

    public int forget() {
        int many = hearsay.count;
        hearsay.count = 0;
        return many;
    }

    public int fits() {
        trial.copyFrom(now);
        walker.walk(trial, rules, THE_END);
        int bits = 0;
        for (int hearse = 0; hearse < trial.hearseCount; hearse++) {
            bits |= hearsay.isTrueOf(trial, hearse) ? 1 << hearse : 0;
        }
        told.tellOne(Integer.bitCount(bits));
        return bits;
    }

    // ---- chances, laws

    public int rains(int n, int k, int p) {
        if (n < 1 || n > 12 || k < 0 || k > 12 || p < 0 || p > 10) {
            return NONE;
        }
        long upper = 0;
        long ways = 1;
        for (int others = 0; others < n; others++) {
            if (others + 1 >= k) {
                upper += ways * power(p, others + 1) * power(10 - p, n - 1 - others);
            }
            ways = ways * (n - 1 - others) / (others + 1);
        }
        long lower = power(10, n);
        long common = commonDivisor(upper, lower);
        if (common < 1) {
            return NONE;
        }
        told.tellTwo(upper / common, lower / common);
        return 0;
    }

    private static long power(long of, int times) {
        long product = 1;
        for (int i = 0; i < times; i++) {
            product *= of;
        }
        return product;
    }

    private static long commonDivisor(long one, long other) {
        long a = one;
        long b = other;
        for (int n = 0; n < 100 && b > 0; n++) {
            long rest = a % b;
            a = b;
            b = rest;
        }
        return a;
    }

    public int law() {
        int fault = ruleReader.read(text, otherRules);
        text.clear();
        if (fault != NONE) {
            return -10000 - fault;
        }
        trial.copyFrom(now);
        int byOther = Integer.bitCount(rightOnesOfTrial(otherRules));
        trial.copyFrom(now);
        int byRule = Integer.bitCount(rightOnesOfTrial(rules));
        told.tellTwo(byOther, byRule);
        return byOther - byRule;
    }

    // ---- rests, years

    public int rests(int v) {
        if (v < 0 || v > 20) {
            return NONE;
        }
        told.clear();
        int pairs = 0;
        for (int x = 0; x <= MAX_SPEED; x++) {
            for (int y = 0; y <= MAX_SPEED; y++) {
                if (isBestAnswer(x, y, v) && isBestAnswer(y, x, v)) {
                    pairs++;
                    if (pairs == 1) {
                        told.tellTwo(x, y);
                    }
                }
            }
        }
        return pairs;
    }

    private static boolean isBestAnswer(int mine, int its, int v) {
        int have = gain(mine, its, v);
        for (int another = 0; another <= MAX_SPEED; another++) {
            if (gain(another, its, v) > have) {
                return false;
            }
        }
        return true;
    }

    private static int gain(int mine, int its, int v) {
        int prize = 0;
        if (mine > its) {
            prize = v;
        } else if (mine == its) {
            prize = v / 2;
        }
        return prize - mine - (mine > 2 * its ? 3 : 0);
    }

    public int years(int seed, int n) {
        if (n < 1 || n > MAX_STEPS) {
            return NONE;
        }
        trial.copyFrom(now);
        drawn = seed;
        for (int k = 0; k < n; k++) {
            int lot = draw(4);
            if (lot < 2) {
                walker.advance(trial, rules);
            } else if (lot == 2) {
                if (trial.mournerCount > 0) {
                    trial.turn(draw(trial.mournerCount));
                }
            } else if (trial.mournerCount > 0) {
                int mourner = draw(trial.mournerCount);
                trial.shove(mourner, draw(5) - 2, street);
            }
        }
        told.tellTwo(trial.endedCount, Integer.bitCount(trial.rightBits()));
        return trial.arrivedCount;
    }

    private int draw(int n) {
        drawn = drawn * 1103515245 + 12345;
        return n < 1 ? 0 : (drawn >>> 16) % n;
    }

    // ---- kept

    public boolean keep(int i) {
        if (i < 0 || i >= MAX_KEPT) {
            return false;
        }
        kept[i].copyFrom(now);
        isKept[i] = true;
        return true;
    }

    public boolean again(int i) {
        if (i < 0 || i >= MAX_KEPT || !isKept[i]) {
            return false;
        }
        // Hearses and mourners never go but by avenue(), so as many as then means that none came since.
        if (kept[i].hearseCount != now.hearseCount || kept[i].mournerCount != now.mournerCount) {
            return false;
        }
        now.copyFrom(kept[i]);
        history.clear();
        return true;
    }

    public int count(int what) {
        switch (what) {
            case 0:
                return street.cells;
            case 1:
                return now.hearseCount;
            case 2:
                return now.mournerCount;
            case 3:
                return now.step;
            case 4:
                return now.arrivedCount;
            case 5:
                return now.endedCount;
            case 6:
                return Integer.bitCount(now.rightBits());
            case 7:
                return Integer.bitCount(street.corners);
            case 8:
                return street.weatherAt(now.step);
            case 9:
                return hearsay.count;
            case 10:
                return history.count;
            case 11:
                return told.size;
            case 12:
                return text.length;
            default:
                return -100;
        }
    }

    public long row(int i) throws NoSuchElementException {
        if (i < 0 || i >= told.size) {
            throw new NoSuchElementException("no such number of the row");
        }
        return told.numbers[i];
    }

    /** THE TEXT, and how far a call has read it. */
    private static final class Text {
        private final int[] signs = new int[TEXT_SIGNS];
        private int length = 0;
        private int at = 0;
        private int stop = 0;

        boolean addFour(int v) {
            if (length + 4 > TEXT_SIGNS) {
                return false;
            }
            for (int shift = 24; shift >= 0; shift -= 8) {
                signs[length] = v >>> shift & 255;
                length++;
            }
            return true;
        }

        boolean cutTo(int n) {
            if (n < 0 || n > length) {
                return false;
            }
            length = n;
            return true;
        }

        void clear() {
            length = 0;
        }

        boolean isEmpty() {
            return length == 0;
        }

        int signAt(int p) {
            return p >= 0 && p < length ? signs[p] : NO_SIGN;
        }

        /** Reading begins; it sees the first signs alone, so that a longer text is faulted at the limit. */
        void open(int limit) {
            at = 0;
            stop = Math.min(length, limit);
        }

        int look() {
            return at < stop ? signs[at] : NO_SIGN;
        }

        void pass() {
            if (at < stop) {
                at++;
            }
        }

        void back() {
            if (at > 0) {
                at--;
            }
        }

        boolean skip(int sign) {
            if (look() != sign) {
                return false;
            }
            pass();
            return true;
        }

        int digit() {
            int sign = look();
            if (sign < '0' || sign > '9') {
                return NONE;
            }
            pass();
            return sign - '0';
        }

        int number(int mostDigits) {
            int value = digit();
            int next = value;
            for (int n = 1; n < mostDigits && next != NONE; n++) {
                next = digit();
                value = next == NONE ? value : value * 10 + next;
            }
            return value;
        }

        boolean isRead() {
            return at >= stop;
        }

        boolean isWhole() {
            return at >= length;
        }
    }

    /** Numbers told last. */
    private static final class Row {
        private final long[] numbers = new long[MAX_MOURNERS];
        private int size = 0;

        void clear() {
            size = 0;
        }

        void add(long number) {
            if (size < MAX_MOURNERS) {
                numbers[size] = number;
                size++;
            }
        }

        void tellOne(long number) {
            clear();
            add(number);
        }

        void tellTwo(long one, long other) {
            clear();
            add(one);
            add(other);
        }
    }

    /** THE AVENUE and its WEATHER: what no step changes. */
    private static final class Street {
        private final int[] digits = new int[MAX_WEATHER];
        private int cells = MIN_CELLS;
        private int corners = 0;
        private int digitCount = 1;

        void become(Text text) {
            cells = text.length;
            corners = 0;
            for (int cell = 0; cell < cells; cell++) {
                corners |= text.signAt(cell) == 'c' ? 1 << cell : 0;
            }
        }

        void takeWeather(Text text) {
            digitCount = text.length;
            for (int k = 0; k < digitCount; k++) {
                digits[k] = text.signAt(k) - '0';
            }
        }

        int gate() {
            return cells - 1;
        }

        int putOnStreet(int cell) {
            return Math.max(0, Math.min(cell, gate() - 1));
        }

        int weatherAt(int step) {
            return digitCount < 1 || step < 0 ? 0 : digits[step % digitCount];
        }

        boolean isCorner(int cell) {
            return (corners >> cell & 1) == 1;
        }
    }

    /** HEARSES, MOURNERS and STEP: all that steps change, and that undo() brings back. */
    private static final class Scene {
        private final int[] cell = new int[MAX_HEARSES];
        private final int[] rank = new int[MAX_HEARSES];
        private final int[] place = new int[MAX_MOURNERS];
        private final int[] own = new int[MAX_MOURNERS];
        private final int[] follows = new int[MAX_MOURNERS];
        private final int[] grave = new int[MAX_MOURNERS];
        private int hearseCount = 0;
        private int mournerCount = 0;
        private int arrivedCount = 0;
        private int endedCount = 0;
        private int step = 0;

        void clear() {
            hearseCount = 0;
            mournerCount = 0;
            arrivedCount = 0;
            endedCount = 0;
            step = 0;
        }

        void copyFrom(Scene other) {
            System.arraycopy(other.cell, 0, cell, 0, MAX_HEARSES);
            System.arraycopy(other.rank, 0, rank, 0, MAX_HEARSES);
            System.arraycopy(other.place, 0, place, 0, MAX_MOURNERS);
            System.arraycopy(other.own, 0, own, 0, MAX_MOURNERS);
            System.arraycopy(other.follows, 0, follows, 0, MAX_MOURNERS);
            System.arraycopy(other.grave, 0, grave, 0, MAX_MOURNERS);
            hearseCount = other.hearseCount;
            mournerCount = other.mournerCount;
            arrivedCount = other.arrivedCount;
            endedCount = other.endedCount;
            step = other.step;
        }

        boolean isHearse(int hearse) {
            return hearse >= 0 && hearse < hearseCount;
        }

        boolean isMourner(int mourner) {
            return mourner >= 0 && mourner < mournerCount;
        }

        boolean hasArrived(int hearse) {
            return rank[hearse] > 0;
        }

        boolean hasEnded(int mourner) {
            return grave[mourner] != NONE;
        }

        boolean isRight(int mourner) {
            return grave[mourner] == own[mourner];
        }

        void addHearse(int on) {
            cell[hearseCount] = on;
            rank[hearseCount] = 0;
            hearseCount++;
        }

        void addMourner(int on, int ownHearse) {
            place[mournerCount] = on;
            own[mournerCount] = ownHearse;
            follows[mournerCount] = NONE;
            grave[mournerCount] = NONE;
            mournerCount++;
        }

        void arrive(int hearse) {
            arrivedCount++;
            rank[hearse] = arrivedCount;
            cell[hearse] = NONE;
        }

        void takeAway(int hearse) {
            arrive(hearse);
            for (int mourner = 0; mourner < mournerCount; mourner++) {
                if (follows[mourner] == hearse) {
                    follows[mourner] = NONE;
                }
            }
        }

        void endAt(int mourner, int hearse) {
            grave[mourner] = hearse;
            endedCount++;
        }

        /** Hearses that have not arrived, by their numbers, come to these cells. */
        void placeHearses(int[] cells) {
            int k = 0;
            for (int hearse = 0; hearse < hearseCount; hearse++) {
                if (!hasArrived(hearse)) {
                    cell[hearse] = cells[k];
                    k++;
                }
            }
        }

        int turn(int mourner) {
            if (!isMourner(mourner)) {
                return NONE;
            }
            if (hasEnded(mourner)) {
                return -2;
            }
            int followed = follows[mourner];
            if (hasArrived(own[mourner]) || followed == own[mourner]) {
                return -3;
            }
            follows[mourner] = own[mourner];
            return followed == NONE ? FOLLOWED_NONE : followed;
        }

        int shove(int mourner, int v, Street street) {
            if (!isMourner(mourner) || v < -9 || v > 9 || v == 0) {
                return NONE;
            }
            if (hasEnded(mourner)) {
                return -2;
            }
            place[mourner] = street.putOnStreet(place[mourner] + v);
            return place[mourner];
        }

        int exchange(int one, int other) {
            if (!isHearse(one) || !isHearse(other) || one == other) {
                return NONE;
            }
            if (hasArrived(one) || hasArrived(other)) {
                return -2;
            }
            int former = cell[one];
            cell[one] = cell[other];
            cell[other] = former;
            return Math.abs(cell[one] - cell[other]);
        }

        int hearseOn(int on) {
            for (int hearse = 0; hearse < hearseCount; hearse++) {
                if (cell[hearse] == on) {
                    return hearse;
                }
            }
            return NONE;
        }

        int takenCells() {
            int bits = 0;
            for (int hearse = 0; hearse < hearseCount; hearse++) {
                bits |= cell[hearse] < 0 ? 0 : 1 << cell[hearse];
            }
            return bits;
        }

        /** The hearse that is the farthest ahead of those behind a cell. */
        int foremostBelow(int limit) {
            int foremost = NONE;
            int at = NONE;
            for (int hearse = 0; hearse < hearseCount; hearse++) {
                if (cell[hearse] < limit && cell[hearse] > at) {
                    foremost = hearse;
                    at = cell[hearse];
                }
            }
            return foremost;
        }

        int freeAhead(int hearse, int gate) {
            int from = cell[hearse];
            int free = gate - from;
            for (int other = 0; other < hearseCount; other++) {
                int between = cell[other] - from - 1;
                free = between >= 0 && between < free ? between : free;
            }
            return free;
        }

        boolean isAheadOf(int one, int other) {
            if (hasArrived(one)) {
                return !hasArrived(other) || rank[one] < rank[other];
            }
            return !hasArrived(other) && cell[one] > cell[other];
        }

        int nearestTo(int from) {
            int nearest = NONE;
            int least = MAX_CELLS;
            for (int hearse = 0; hearse < hearseCount; hearse++) {
                int way = Math.abs(cell[hearse] - from);
                boolean isNearer = way < least || way == least && cell[hearse] > from;
                if (isNearer && cell[hearse] >= 0) {
                    nearest = hearse;
                    least = way;
                }
            }
            return nearest;
        }

        boolean isInDoubt(int mourner) {
            int from = place[mourner];
            int nearest = nearestTo(from);
            if (nearest == NONE) {
                return false;
            }
            // Of two that are as near the one ahead is told as the nearest: the other one is as far behind.
            int behind = 2 * from - cell[nearest];
            return behind >= 0 && behind != cell[nearest] && hearseOn(behind) != NONE;
        }

        int bitsOf(int[] hearses, int hearse) {
            int bits = 0;
            for (int mourner = 0; mourner < mournerCount; mourner++) {
                bits |= hearses[mourner] == hearse ? 1 << mourner : 0;
            }
            return bits;
        }

        int rightBits() {
            int bits = 0;
            for (int mourner = 0; mourner < mournerCount; mourner++) {
                bits |= isRight(mourner) ? 1 << mourner : 0;
            }
            return bits;
        }

        int wrongBits() {
            int bits = 0;
            for (int mourner = 0; mourner < mournerCount; mourner++) {
                bits |= hasEnded(mourner) && !isRight(mourner) ? 1 << mourner : 0;
            }
            return bits;
        }
    }

    /** THE RULE, as a row of acts on a stack, in which each thing stands ahead of what is done with it. */
    private static final class Law {
        // No sign of a text, so that none is taken for one of these.
        private static final int NUMBER = 300;
        private static final int GIVEN = 301;
        private static final int NEGATE = 302;
        private static final String LETTERS = "pgcwtim";
        private static final int FREE_AHEAD = 1;
        private static final int WEATHER = 3;
        private static final int TIME = 4;
        private static final int FOLLOWERS = 6;

        private final int[] kinds = new int[RULE_SIGNS];
        private final int[] values = new int[RULE_SIGNS];
        private final int[] stack = new int[RULE_SIGNS];
        private final int[] given = new int[7];
        private int size = 0;
        private int lettersUsed = 0;

        /** The rule where none is told: 1+(g>2). */
        void becomePlain() {
            clear();
            add(NUMBER, 1);
            addLetter(FREE_AHEAD);
            add(NUMBER, 2);
            add('>', 0);
            add('+', 0);
        }

        void clear() {
            size = 0;
            lettersUsed = 0;
        }

        void add(int kind, int value) {
            if (size < RULE_SIGNS) {
                kinds[size] = kind;
                values[size] = value;
                size++;
            }
        }

        void addLetter(int letter) {
            add(GIVEN, letter);
            lettersUsed |= 1 << letter;
        }

        private boolean uses(int letter) {
            return (lettersUsed >> letter & 1) == 1;
        }

        /** After how many steps without a change nothing can change any more. */
        int period(Street street) {
            return (uses(TIME) ? 10 : 1) * (uses(WEATHER) ? street.digitCount : 1);
        }

        /** What the letters stand for, of a hearse that has not arrived. */
        void observe(Scene scene, Street street, int hearse) {
            given[0] = scene.cell[hearse];
            given[FREE_AHEAD] = uses(FREE_AHEAD) ? scene.freeAhead(hearse, street.gate()) : 0;
            given[2] = street.isCorner(scene.cell[hearse]) ? 1 : 0;
            given[WEATHER] = street.weatherAt(scene.step);
            given[TIME] = scene.step % 10;
            given[5] = hearse;
            given[FOLLOWERS] = uses(FOLLOWERS) ? Integer.bitCount(scene.bitsOf(scene.follows, hearse)) : 0;
        }

        int pace() {
            int height = 0;
            for (int k = 0; k < size; k++) {
                int kind = kinds[k];
                if (kind == NUMBER) {
                    stack[height] = values[k];
                    height++;
                } else if (kind == GIVEN) {
                    stack[height] = given[values[k]];
                    height++;
                } else if (kind == NEGATE && height > 0) {
                    stack[height - 1] = -stack[height - 1];
                } else if (height > 1) {
                    height--;
                    stack[height - 1] = join(kind, stack[height - 1], stack[height]);
                }
            }
            return Math.max(0, Math.min(stack[0], MAX_PACE));
        }

        private static int join(int sign, int one, int other) {
            switch (sign) {
                case '+':
                    return one + other;
                case '-':
                    return one - other;
                case '*':
                    return one * other;
                case '/':
                    return other == 0 ? 0 : one / other;
                case '<':
                    return one < other ? 1 : 0;
                case '>':
                    return one > other ? 1 : 0;
                default:
                    return one == other ? 1 : 0;
            }
        }
    }

    /** Reads a text as a rule: a sign waits till all that binds closer has come into the law. */
    private static final class RuleReader {
        private static final int COMPARES = 1;
        private static final int ADDS = 2;
        private static final int MULTIPLIES = 3;
        private static final int NEGATES = 4;

        private final int[] waiting = new int[RULE_SIGNS];
        private int waitingCount = 0;
        private int depth = 0;
        private boolean wantsThing = true;

        /** At which sign the text can't stand, or NONE. */
        int read(Text text, Law law) {
            if (text.isEmpty()) {
                law.becomePlain();
                return NONE;
            }
            law.clear();
            waitingCount = 0;
            depth = 0;
            wantsThing = true;
            text.open(RULE_SIGNS);
            for (int n = 0; n < RULE_SIGNS && !text.isRead(); n++) {
                if (!(wantsThing ? takeThing(text, law) : takeSign(text, law))) {
                    return text.at;
                }
            }
            if (wantsThing || depth > 0 || !text.isWhole()) {
                return text.at;
            }
            release(law, COMPARES);
            return NONE;
        }

        private boolean takeThing(Text text, Law law) {
            int number = text.number(3);
            if (number != NONE) {
                law.add(Law.NUMBER, number);
                wantsThing = false;
                return true;
            }
            int sign = text.look();
            if (sign == '-') {
                hold(Law.NEGATE);
            } else if (sign == '(' && depth < MAX_DEPTH) {
                depth++;
                hold(sign);
            } else {
                int letter = sign == NO_SIGN ? NONE : Law.LETTERS.indexOf((char) sign);
                if (letter < 0) {
                    return false;
                }
                law.addLetter(letter);
                wantsThing = false;
            }
            text.pass();
            return true;
        }

        private boolean takeSign(Text text, Law law) {
            int sign = text.look();
            int binding = bindingOf(sign);
            if (sign == ')' && depth > 0) {
                release(law, COMPARES);
                waitingCount--;
                depth--;
            } else if (binding == COMPARES) {
                release(law, ADDS);
                if (latestBinding() == COMPARES) {
                    return false;
                }
                hold(sign);
                wantsThing = true;
            } else if (binding > COMPARES) {
                release(law, binding);
                hold(sign);
                wantsThing = true;
            } else {
                return false;
            }
            text.pass();
            return true;
        }

        private void hold(int sign) {
            if (waitingCount < RULE_SIGNS) {
                waiting[waitingCount] = sign;
                waitingCount++;
            }
        }

        /** Signs that bind as close or closer come into the law, back to the bracket that is open. */
        private void release(Law law, int binding) {
            while (waitingCount > 0 && latestBinding() >= binding) {
                waitingCount--;
                law.add(waiting[waitingCount], 0);
            }
        }

        private int latestBinding() {
            return waitingCount > 0 ? bindingOf(waiting[waitingCount - 1]) : 0;
        }

        private static int bindingOf(int sign) {
            switch (sign) {
                case '<':
                case '>':
                case '=':
                    return COMPARES;
                case '+':
                case '-':
                    return ADDS;
                case '*':
                case '/':
                    return MULTIPLIES;
                case Law.NEGATE:
                    return NEGATES;
                default:
                    return 0;
            }
        }
    }

    /** Makes steps, and tallies what happens in them. */
    private static final class Walker {
        private final Street street;
        private final int[] waitsOn = new int[MAX_CELLS];
        private final int[] changesOf = new int[MAX_MOURNERS];
        private int waits = 0;
        private int changes = 0;
        private boolean isStirred = false;

        Walker(Street street) {
            this.street = street;
        }

        void forgetTallies() {
            waits = 0;
            changes = 0;
            for (int cell = 0; cell < MAX_CELLS; cell++) {
                waitsOn[cell] = 0;
            }
            for (int mourner = 0; mourner < MAX_MOURNERS; mourner++) {
                changesOf[mourner] = 0;
            }
        }

        void walk(Scene scene, Law law, int n) {
            forgetTallies();
            for (int k = 0; k < n; k++) {
                advance(scene, law);
            }
        }

        /** Where mourners end is as at THE END; steps in which nobody can end any more are left out. */
        void toEnd(Scene scene, Law law) {
            int period = law.period(street);
            int calm = 0;
            for (int k = 0; k < THE_END && calm < period; k++) {
                if (scene.endedCount == scene.mournerCount || scene.arrivedCount == scene.hearseCount) {
                    break;
                }
                advance(scene, law);
                calm = isStirred ? 0 : calm + 1;
            }
        }

        void advance(Scene scene, Law law) {
            isStirred = false;
            int limit = street.cells;
            for (int k = 0; k < MAX_HEARSES; k++) {
                int hearse = scene.foremostBelow(limit);
                if (hearse == NONE) {
                    break;
                }
                limit = scene.cell[hearse];
                moveHearse(scene, law, hearse);
            }
            for (int mourner = 0; mourner < scene.mournerCount; mourner++) {
                if (!scene.hasEnded(mourner)) {
                    moveMourner(scene, mourner);
                }
            }
            scene.step++;
        }

        private void moveHearse(Scene scene, Law law, int hearse) {
            int from = scene.cell[hearse];
            law.observe(scene, street, hearse);
            int to = goal(scene.takenCells(), from, law.pace());
            if (to == NONE) {
                waits++;
                waitsOn[from]++;
                return;
            }
            isStirred = true;
            if (to == street.gate()) {
                scene.arrive(hearse);
            } else {
                scene.cell[hearse] = to;
            }
        }

        /** The farthest cell to which a hearse can go, or NONE; sets of cells are bits. */
        private int goal(int taken, int from, int pace) {
            for (int to = Math.min(from + pace, street.gate()); to > from; to--) {
                int upTo = (2 << to) - (1 << from);
                int between = (1 << to) - (2 << from);
                boolean isFree = (taken >> to & 1) == 0;
                if (isFree && ((taken & between) == 0 || (street.corners & upTo) == 0)) {
                    return to;
                }
            }
            return NONE;
        }

        private void moveMourner(Scene scene, int mourner) {
            int followed = scene.follows[mourner];
            if (followed != NONE && scene.hasArrived(followed)) {
                scene.endAt(mourner, followed);
                isStirred = true;
                return;
            }
            int from = scene.place[mourner];
            int nearest = scene.nearestTo(from);
            if (nearest == NONE) {
                return;
            }
            int way = scene.cell[nearest] - from;
            if (followed == NONE || Math.abs(way) < Math.abs(scene.cell[followed] - from)) {
                scene.follows[mourner] = nearest;
                changes++;
                changesOf[mourner]++;
                isStirred = true;
            } else {
                way = scene.cell[followed] - from;
            }
            scene.place[mourner] = from + Math.max(-2, Math.min(way, 2));
            isStirred = isStirred || way != 0;
        }
    }

    /** What acts have left behind, the latest ones, for undo(). */
    private static final class History {
        private final Scene[] scenes = new Scene[MAX_UNDONE];
        private int first = 0;
        private int count = 0;

        History() {
            for (int i = 0; i < MAX_UNDONE; i++) {
                scenes[i] = new Scene();
            }
        }

        void clear() {
            count = 0;
        }

        void add(Scene scene) {
            scenes[(first + count) % MAX_UNDONE].copyFrom(scene);
            if (count < MAX_UNDONE) {
                count++;
            } else {
                first = (first + 1) % MAX_UNDONE;
            }
        }

        boolean takeBack(Scene into) {
            if (count == 0) {
                return false;
            }
            count--;
            into.copyFrom(scenes[(first + count) % MAX_UNDONE]);
            return true;
        }
    }

    /** Mourners shared out over hearses: how many of those from one on can be, when some hearses are taken. */
    private static final class Sharing {
        private final int[][] most = new int[MAX_MOURNERS + 1][1 << MAX_HEARSES];
        private int reach = 0;

        int weigh(Scene scene, int v) {
            reach = v;
            int sets = 1 << scene.hearseCount;
            for (int taken = 0; taken < sets; taken++) {
                most[scene.mournerCount][taken] = 0;
            }
            for (int mourner = scene.mournerCount - 1; mourner >= 0; mourner--) {
                for (int taken = 0; taken < sets; taken++) {
                    most[mourner][taken] = mostFrom(scene, mourner, taken);
                }
            }
            return most[0][0];
        }

        private int mostFrom(Scene scene, int mourner, int taken) {
            int best = most[mourner + 1][taken];
            for (int hearse = 0; hearse < scene.hearseCount; hearse++) {
                if (canHave(scene, mourner, hearse, taken)) {
                    best = Math.max(best, 1 + most[mourner + 1][taken | 1 << hearse]);
                }
            }
            return best;
        }

        private boolean canHave(Scene scene, int mourner, int hearse, int taken) {
            return (taken >> hearse & 1) == 0 && !scene.hasEnded(mourner) && !scene.hasArrived(hearse)
                && Math.abs(scene.cell[hearse] - scene.place[mourner]) <= reach;
        }

        /** NONE is less than every hearse, so the least row leaves out whom it can. */
        int choice(Scene scene, int mourner, int taken) {
            int wanted = most[mourner][taken];
            if (most[mourner + 1][taken] == wanted) {
                return NONE;
            }
            for (int hearse = 0; hearse < scene.hearseCount; hearse++) {
                if (canHave(scene, mourner, hearse, taken) && 1 + most[mourner + 1][taken | 1 << hearse] == wanted) {
                    return hearse;
                }
            }
            return NONE;
        }
    }

    /** Orders of hearses that have not arrived, told by the cell of each, from the least row on. */
    private static final class Orders {
        private final int[] cells = new int[MAX_HEARSES];
        private final int[] best = new int[MAX_HEARSES];
        private int size = 0;

        void begin(Scene scene, Street street) {
            size = 0;
            for (int cell = 0; cell < street.cells && size < MAX_HEARSES; cell++) {
                if (scene.hearseOn(cell) != NONE) {
                    cells[size] = cell;
                    size++;
                }
            }
        }

        void markBest() {
            System.arraycopy(cells, 0, best, 0, MAX_HEARSES);
        }

        boolean toNext() {
            int i = size - 2;
            while (i >= 0 && cells[i] > cells[i + 1]) {
                i--;
            }
            if (i < 0) {
                return false;
            }
            int j = size - 1;
            while (j > i && cells[j] < cells[i]) {
                j--;
            }
            exchangeCells(i, j);
            for (int low = i + 1, high = size - 1; low < high; low++, high--) {
                exchangeCells(low, high);
            }
            return true;
        }

        private void exchangeCells(int i, int j) {
            int former = cells[i];
            cells[i] = cells[j];
            cells[j] = former;
        }
    }

    /** What was heard of a hearse. */
    private static final class Hearsay {
        private final int[] kinds = new int[MAX_HEARD];
        private final int[] values = new int[MAX_HEARD];
        private int count = 0;

        boolean add(int what, int v) {
            if (count >= MAX_HEARD || !canBe(what, v)) {
                return false;
            }
            kinds[count] = what;
            values[count] = v;
            count++;
            return true;
        }

        private static boolean canBe(int what, int v) {
            switch (what) {
                case 0:
                case 2:
                    return v >= 0 && v <= MAX_MOURNERS;
                case 1:
                    return v >= 1 && v <= MAX_HEARSES;
                case 3:
                    return v == 0 || v == 1;
                default:
                    return false;
            }
        }

        boolean isTrueOf(Scene atTheEnd, int hearse) {
            for (int k = 0; k < count; k++) {
                if (!isOneTrueOf(atTheEnd, hearse, k)) {
                    return false;
                }
            }
            return true;
        }

        private boolean isOneTrueOf(Scene atTheEnd, int hearse, int k) {
            switch (kinds[k]) {
                case 0:
                    return Integer.bitCount(atTheEnd.bitsOf(atTheEnd.own, hearse)) >= values[k];
                case 1:
                    return atTheEnd.rank[hearse] == values[k];
                case 2:
                    return Integer.bitCount(atTheEnd.bitsOf(atTheEnd.grave, hearse)) >= values[k];
                default:
                    return hearse % 2 == values[k];
            }
        }
    }
}
