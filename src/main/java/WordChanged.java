/** The word of a camp has been changed; ../shared/DOC.md says what each call answers. */
public final class WordChanged {
    public static final int BAD = -1, NOT = -2, FULL = -3, STATE = -5, VOID = -2000000000;

    private static final int NOTHING_THERE = -11, OTHER_KIND = -12, NO_SUCH_PLACE = -13, SIZE_BELOW_0 = -14;
    private static final int NOT_THEN = -3;
    private static final long NO_LONG = 1L << 63;

    private static final int X = 0, Y = 1, COLD = 2, LONG = 3, LIKE = 4, OUT = 5, HOME = 6, BY = 7;
    private static final int OLD = 8, NEW = 9, AT = 10, HOLDS = 11, HAS = 12, NOW = 13;
    private static final int MOST_POSTS = 7, MOST_TOLD = 6, WORDS = 10, PATROLS = 4;
    private static final int MINUTES = 1000, TWELVE = 12, MOST_NIGHTS = 30;
    /** So far behind every minute that a POST that never hears NEW needs no rule of its own. */
    private static final int NEVER = 1000000;
    private static final int BYTES = 0, SHORTS = 1;

    private final Numbers numbers;
    private final Law theLaw;
    private final Shelves shelves;
    private final Way way;
    private final Way otherWay;
    private final Chances chances;
    private final Said saidThere;
    private final Search search;
    private final Deed deed;
    private final Bodies bodies;

    public WordChanged() {
        numbers = new Numbers();
        theLaw = new Law();
        shelves = new Shelves();
        way = new Way();
        otherWay = new Way();
        chances = new Chances();
        saidThere = new Said();
        search = new Search();
        deed = new Deed();
        bodies = new Bodies();
    }

    // ---- posts, words, patrols

    public int post(int x, int y) {
        if (!numbers.mayBe(X, x) || !numbers.mayBe(Y, y)) {
            return BAD;
        }
        return numbers.postCount >= MOST_POSTS ? FULL : enlist(x, y, 0);
    }

    public int posts(int shelf, int i, int n) {
        if (n < 1 || n > MOST_POSTS) {
            return BAD;
        }
        int refusal = shelves.refusal(shelf, BYTES);
        if (refusal == NOTHING_THERE) {
            return 0;
        }
        if (refusal != 0) {
            return refusal;
        }
        int came = 0;
        for (int k = 0; k < n && comesFromRow(shelf, i, k); k++) {
            came++;
        }
        return came;
    }

    public int mend(int number, int what, int v) {
        int cell = numbers.cellOf(number, what);
        if (cell < 0 || !numbers.mayBe(what, v)) {
            return BAD;
        }
        return numbers.become(cell, v);
    }

    public int of(int number, int what) {
        if (what == HAS) {
            return numbers.isPost(number) ? deed.has[number] : BAD;
        }
        if (what == NOW) {
            return number == 0 ? deed.now : BAD;
        }
        int cell = numbers.cellOf(number, what);
        return cell < 0 ? BAD : numbers.cells[cell];
    }

    public int feed(int letter) {
        return theLaw.take(letter);
    }

    public int law() {
        return theLaw.proclaim();
    }

    public int mishears(int pn) {
        if (pn < 0 || pn % 10 > MOST_TOLD || !numbers.isPost(pn / 10)) {
            return BAD;
        }
        return theLaw.mishearing(numbers, numbers.the(NEW), pn / 10, pn % 10);
    }

    // ---- in thought

    public int hears(int shelf, int post) {
        if (post < -2 || post >= numbers.postCount) {
            return BAD;
        }
        int refusal = layOut(shelf);
        if (refusal != 0) {
            return refusal;
        }
        if (post == -1) {
            return numbers.the(AT) + way.latest();
        }
        if (post == -2) {
            return way.together();
        }
        int minute = way.hearing(numbers, post);
        return minute == NEVER ? NOT : minute;
    }

    public int route(int rule, int k) {
        if (rule < 0 || rule > 1 || k < -1) {
            return BAD;
        }
        if (k >= numbers.postCount - 1 && k >= 0) {
            return NOT;
        }
        search.findBest(numbers, rule);
        return k < 0 ? search.bestCost : search.best[k];
    }

    public int letsIn(int shelf, int pm) {
        if (!isPlaceAndMinute(pm)) {
            return BAD;
        }
        int refusal = layOut(shelf);
        return refusal != 0 ? refusal : way.lets(numbers, pm / MINUTES, pm % MINUTES);
    }

    public int patrol(int shelf, int patrol) {
        if (patrol < -1 || patrol >= PATROLS) {
            return BAD;
        }
        int refusal = layOut(shelf);
        if (refusal != 0) {
            return refusal;
        }
        if (patrol < 0) {
            return PATROLS - way.patrolsIn(numbers, 0);
        }
        return way.goesIn(numbers, patrol, numbers.the(NEW)) ? 1 : 0;
    }

    public int holdsFor(int shelf) {
        int refusal = layOut(shelf);
        if (refusal != 0) {
            return refusal;
        }
        int least = 0;
        for (int p = 0; p < PATROLS; p++) {
            int needed = way.holdsNeeded(numbers, p);
            if (needed >= MINUTES) {
                return NOT;
            }
            least = Math.max(least, needed);
        }
        return least;
    }

    public int stranger(int shelf, int pm, int at) {
        if (!isPlaceAndMinute(pm) || !numbers.isPost(at)) {
            return BAD;
        }
        int refusal = layOut(shelf);
        if (refusal != 0) {
            return refusal;
        }
        int fresh = numbers.the(NEW);
        int told = overheard(pm);
        if (!way.admits(numbers, at, pm % MINUTES, told, fresh)) {
            return NOT_THEN;
        }
        int heard = way.hearing(numbers, at);
        return told == fresh || heard == NEVER ? NOT : heard + numbers.the(HOLDS);
    }

    public int safe(int shelf, int pm, int m) {
        // m is the minute of pm's words, 0 .. 999: no element of a ROW, as the minutes of what was SAID are.
        if (!isPlaceAndMinute(pm) || m < 0 || m >= MINUTES) {
            return BAD;
        }
        int refusal = layOut(shelf);
        if (refusal != 0) {
            return refusal;
        }
        // Which WORD is overheard does not hang on HOLDS: till NEW is heard it is OLD, from then on NEW.
        return overheard(pm) == numbers.the(NEW) ? safeFromNew(m) : safeFromOld(m);
    }

    public int first(int shelf, int what) {
        if (what < 0 || what > 1) {
            return BAD;
        }
        int refusal = layOut(shelf);
        if (refusal != 0) {
            return refusal;
        }
        int bestPost = NOT;
        int most = NOT;
        for (int i = 0; i < way.length; i++) {
            otherWay.takeWithFirst(numbers, way, i);
            int letIn = otherWay.patrolsIn(numbers, 0);
            if (letIn > most) {
                most = letIn;
                bestPost = way.order[i];
            }
        }
        return what == 0 ? bestPost : most;
    }

    public long right(int shelf, int post, int twice, int part) {
        if (!isPart(part) || post < -2 || post >= numbers.postCount) {
            return NO_LONG;
        }
        if (twice < 0 || twice >= 1 << numbers.postCount || layOut(shelf) != 0) {
            return NO_LONG;
        }
        chances.weigh(numbers, theLaw, way, numbers.the(NEW));
        if (post == -1) {
            return partOf(chances.ofAll(way, twice), chances.belowAll(way), part);
        }
        if (post == -2) {
            return partOf(chances.together(way, twice), Chances.BELOW, part);
        }
        return partOf(chances.ofOne(post, twice), Chances.BELOW, part);
    }

    public long twice(int shelf, int n, int part) {
        if (n < 0 || n > MOST_TOLD || part < 0 || part > 2 || layOut(shelf) != 0) {
            return NO_LONG;
        }
        chances.weigh(numbers, theLaw, way, numbers.the(NEW));
        int set = chances.bestSet(way, Math.min(n, way.length));
        return part == 2 ? set : partOf(chances.ofAll(way, set), chances.belowAll(way), part);
    }

    public int word(int shelf) {
        int refusal = layOut(shelf);
        if (refusal != 0) {
            return refusal;
        }
        int best = NOT;
        long most = -1;
        for (int w = 0; w < WORDS; w++) {
            if (w != numbers.the(OLD)) {
                chances.weigh(numbers, theLaw, way, w);
                long likely = chances.ofAll(way, 0);
                if (likely > most) {
                    most = likely;
                    best = w;
                }
            }
        }
        return best;
    }

    public long odds(int shelf, int patrol, int part) {
        if (patrol < 0 || patrol >= PATROLS || !isPart(part) || layOut(shelf) != 0) {
            return NO_LONG;
        }
        int fresh = numbers.the(NEW);
        int by = numbers.get(BY, patrol);
        int misheard = 0;
        if (numbers.isPost(by) && way.places[by] >= 0) {
            misheard = theLaw.mishearing(numbers, fresh, by, way.places[by]);
        }
        int above = 0;
        if (way.goesIn(numbers, patrol, fresh)) {
            above += TWELVE - misheard;
        }
        if (way.goesIn(numbers, patrol, numbers.get(LIKE, fresh))) {
            above += misheard;
        }
        return partOf(above, TWELVE, part);
    }

    public long guess(int shelf, int pm, int n, int part) {
        if (!isPlaceAndMinute(pm) || n < 1 || n > WORDS || !isPart(part) || layOut(shelf) != 0) {
            return NO_LONG;
        }
        boolean both = way.lets(numbers, pm / MINUTES, pm % MINUTES) == 3 && !numbers.areAlike();
        if (both) {
            int ways = WORDS * (WORDS - 1);
            return partOf(ways - (WORDS - n) * (WORDS - 1 - n), ways, part);
        }
        return partOf(n, WORDS, part);
    }

    // ---- said, drawn

    public int judge(int rs) {
        int refusal = layOutBoth(rs);
        if (refusal != 0) {
            return refusal;
        }
        int shelf = rs % 10;
        int size = shelves.sizes[shelf];
        int three = 0;
        for (int i = 0; i < size; i += 3) {
            if (i > size - 3 || !isSo(shelf, i)) {
                return three;
            }
            three++;
        }
        return NOT;
    }

    public int which(int shelf, int what) {
        if (what < 0 || what > 1) {
            return BAD;
        }
        int refusal = shelves.refusal(shelf, SHORTS);
        if (refusal != 0) {
            return refusal;
        }
        if (!saidThere.read(numbers, shelves, shelf, numbers.the(NEW))) {
            return what == 0 ? 0 : NOT;
        }
        search.countWays(numbers, saidThere);
        return what == 0 ? search.ways : search.firstWay;
    }

    public int when(int rs) {
        int refusal = layOutBoth(rs);
        if (refusal != 0) {
            return refusal;
        }
        if (!saidThere.read(numbers, shelves, rs % 10, numbers.the(NEW))) {
            return NOT;
        }
        return saidThere.leastStart(numbers, way);
    }

    public int oddWord(int rs) {
        int refusal = layOutBoth(rs);
        if (refusal != 0) {
            return refusal;
        }
        for (int w = 0; w < WORDS; w++) {
            if (saidThere.read(numbers, shelves, rs % 10, w) && saidThere.fitsAll(numbers, way)) {
                return w;
            }
        }
        return NOT;
    }

    public int drawn(int shelf, int seed, int n, int what) {
        if (n < 1 || n > MOST_NIGHTS || what < 0 || what > 1) {
            return BAD;
        }
        int refusal = layOut(shelf);
        if (refusal != 0) {
            return refusal;
        }
        chances.weigh(numbers, theLaw, way, numbers.the(NEW));
        chances.seed = seed;
        int all = 0;
        for (int night = 0; night < n; night++) {
            int misheard = chances.drawNight(way);
            all += what == 0 ? way.length - Integer.bitCount(misheard) : way.patrolsIn(numbers, misheard);
        }
        return all;
    }

    // ---- in deed

    public int change(int word) {
        if (!numbers.mayBe(NEW, word)) {
            return BAD;
        }
        if (numbers.postCount == 0) {
            return STATE;
        }
        deed.led[Deed.CHANGES]++;
        return deed.give(0, word);
    }

    public int tell(int post) {
        if (post == 0 || !numbers.isPost(post)) {
            return BAD;
        }
        deed.led[Deed.TELLINGS]++;
        return deed.give(post, deed.has[0]);
    }

    public int stay(int n) {
        if (n < 1 || n >= MINUTES) {
            return BAD;
        }
        if (deed.now + n > Deed.LAST_MINUTE) {
            return STATE;
        }
        deed.now += n;
        return deed.now;
    }

    public int ask(int post, int word) {
        if (!numbers.isPost(post) || !numbers.mayBe(NEW, word)) {
            return BAD;
        }
        return deed.answer(post, word, numbers.the(HOLDS));
    }

    public int led(int what) {
        if (what < 0 || what > deed.led.length) {
            return BAD;
        }
        return what == deed.led.length ? deed.now : deed.led[what];
    }

    public int image() {
        deed.depict(numbers.postCount);
        return deed.now;
    }

    public int back() {
        if (deed.depicted < 0) {
            return STATE;
        }
        deed.layBack(numbers.the(OLD));
        return deed.now;
    }

    public int undo() {
        return numbers.takeBack();
    }

    public int redo() {
        return numbers.doAgain();
    }

    // ---- acts, shelves

    public int body(int kind) {
        return bodies.add(kind);
    }

    public int act(int body, int act, int x) {
        return bodies.perform(body, act, x);
    }

    public int trace(int i) {
        return i < 0 || i >= bodies.ran || i >= Bodies.MOST_TRACED ? BAD : bodies.traced[i];
    }

    public int keep(int shelf, int body) {
        if (!shelves.isShelf(shelf) || body < -1 || body >= bodies.amount) {
            return BAD;
        }
        shelves.hold(shelf, body);
        return 1;
    }

    public int row(int shelf, int sort, int n) {
        if (!shelves.isShelf(shelf) || sort < 0 || sort >= Shelves.SORTS || n > Shelves.LONGEST) {
            return BAD;
        }
        if (n < 0) {
            return SIZE_BELOW_0;
        }
        shelves.layRow(shelf, sort, n);
        return 1;
    }

    public int put(int shelf, int i, long v) {
        int refusal = shelves.refusalOfPlace(shelf, i);
        if (refusal != 0) {
            return refusal;
        }
        shelves.write(shelf, i, v);
        return 1;
    }

    public long element(int shelf, int i) {
        return shelves.refusalOfPlace(shelf, i) != 0 ? NO_LONG : shelves.read(shelf, i);
    }

    public int shift(int shelf, int i, int other, int j, int n) {
        if (!shelves.isShelf(shelf) || !shelves.isShelf(other)) {
            return BAD;
        }
        return shelves.move(shelf, i, other, j, n);
    }

    public int taken(int shelf, int k) {
        if (!shelves.isShelf(shelf) || k < 0 || k >= Bodies.KINDS) {
            return BAD;
        }
        if (shelves.sorts[shelf] == Shelves.NOTHING) {
            return NOTHING_THERE;
        }
        int kind = shelves.sorts[shelf] == Shelves.BODY ? bodies.kindOf(shelves.kept[shelf]) : -1;
        return Bodies.isUnder(kind, k) ? kind : OTHER_KIND;
    }

    public int count(int what) {
        switch (what) {
            case 0: return numbers.postCount;
            case 1: return theLaw.fed;
            case 2: return numbers.done;
            case 3: return bodies.amount;
            case 4: return bodies.ran;
            default: return BAD;
        }
    }

    // ---- what several calls need

    private int enlist(int x, int y, int cold) {
        int number = numbers.addPost(x, y, cold);
        deed.forget(number, numbers.the(OLD));
        return number;
    }

    private boolean comesFromRow(int shelf, int from, int k) {
        // from is looked at alone first: with one far off the sum would wrap.
        int last = shelves.sizes[shelf] - 3;
        if (numbers.postCount >= MOST_POSTS || from < 0 || from > last || from + 3 * k > last) {
            return false;
        }
        int place = from + 3 * k;
        int x = (int) shelves.read(shelf, place);
        int y = (int) shelves.read(shelf, place + 1);
        int cold = (int) shelves.read(shelf, place + 2);
        if (!numbers.mayBe(X, x) || !numbers.mayBe(Y, y) || !numbers.mayBe(COLD, cold)) {
            return false;
        }
        enlist(x, y, cold);
        return true;
    }

    private boolean isPlaceAndMinute(int pm) {
        return pm >= 0 && numbers.isPost(pm / MINUTES);
    }

    private static boolean isPart(int part) {
        return part == 0 || part == 1;
    }

    private int layOut(int shelf) {
        int refusal = shelves.refusal(shelf, BYTES);
        if (refusal == 0) {
            way.readFrom(numbers, shelves, shelf);
        }
        return refusal;
    }

    /** The ROUTE is laid out, SAID only looked at; nothing on either comes ahead of another kind on either. */
    private int layOutBoth(int rs) {
        if (rs < 0 || !shelves.isShelf(rs / 10) || !shelves.isShelf(rs % 10)) {
            return BAD;
        }
        int routes = shelves.refusal(rs / 10, BYTES);
        int saids = shelves.refusal(rs % 10, SHORTS);
        if (routes == NOTHING_THERE || saids == NOTHING_THERE) {
            return NOTHING_THERE;
        }
        if (routes != 0 || saids != 0) {
            return OTHER_KIND;
        }
        way.readFrom(numbers, shelves, rs / 10);
        return 0;
    }

    private int overheard(int pm) {
        return numbers.the(way.lets(numbers, pm / MINUTES, pm % MINUTES) == 1 ? OLD : NEW);
    }

    private int safeFromNew(int minute) {
        for (int p = 0; p < numbers.postCount; p++) {
            if (numbers.areAlike() || way.hearing(numbers, p) <= minute) {
                return NOT;
            }
        }
        return MINUTES - 1;
    }

    private int safeFromOld(int minute) {
        int greatest = MINUTES - 1;
        for (int p = 0; p < numbers.postCount; p++) {
            greatest = Math.min(greatest, minute - way.hearing(numbers, p));
        }
        return greatest < 0 ? NOT : greatest;
    }

    private boolean isSo(int shelf, int i) {
        int post = (int) shelves.read(shelf, i);
        int minute = (int) shelves.read(shelf, i + 1);
        int word = (int) shelves.read(shelf, i + 2);
        return Said.mayBe(numbers, post, minute, word)
            && way.admits(numbers, post, minute, word, numbers.the(NEW));
    }

    private static long partOf(long above, long below, int part) {
        long divisor = commonDivisor(above, below);
        if (divisor <= 0) {
            return NO_LONG;
        }
        return part == 0 ? above / divisor : below / divisor;
    }

    private static long commonDivisor(long a, long b) {
        long greater = a;
        long less = b;
        // A long needs fewer than a hundred steps.
        for (int step = 0; step < 200 && less != 0; step++) {
            long rest = greater % less;
            greater = less;
            less = rest;
        }
        return greater;
    }

    /** Every number that mend() tells, and those that were told before. */
    private static final class Numbers {
        static final int MOST_KEPT = 40;
        private static final int[] BASE = {0, 7, 14, 21, 31, 41, 45, 49, 53, 54, 55, 56};
        private static final int[] AMOUNT = {7, 7, 7, 10, 10, 4, 4, 4, 1, 1, 1, 1};
        private static final int[] LEAST = {0, 0, 0, 1, 0, 0, 0, 0, 0, 0, 0, 0};
        private static final int[] MOST = {99, 99, 12, 9, 9, 999, 999, 6, 9, 9, 999, 999};

        final int[] cells = new int[57];
        int postCount;
        int done;
        private int undone;
        /** Where the oldest that is kept stands: the three rows go round. */
        private int oldest;
        private final int[] changed = new int[MOST_KEPT];
        private final int[] before = new int[MOST_KEPT];
        private final int[] after = new int[MOST_KEPT];

        Numbers() {
            for (int w = 0; w < WORDS; w++) {
                cells[BASE[LONG] + w] = 3;
                cells[BASE[LIKE] + w] = (w + 1) % WORDS;
            }
            cells[BASE[NEW]] = 1;
            cells[BASE[HOLDS]] = 60;
        }

        int cellOf(int number, int what) {
            if (what < 0 || what > HOLDS || number < 0) {
                return -1;
            }
            int amount = what <= COLD ? postCount : AMOUNT[what];
            return number < amount ? BASE[what] + number : -1;
        }

        boolean mayBe(int what, int v) {
            return what >= 0 && what <= HOLDS && v >= LEAST[what] && v <= MOST[what];
        }

        int get(int what, int number) {
            if (what < 0 || what > HOLDS || number < 0 || number >= AMOUNT[what]) {
                return 0;
            }
            return cells[BASE[what] + number];
        }

        int the(int what) {
            return what < OLD || what > HOLDS ? 0 : cells[BASE[what]];
        }

        boolean isPost(int number) {
            return number >= 0 && number < postCount;
        }

        boolean areAlike() {
            return the(OLD) == the(NEW);
        }

        int apart(int one, int another) {
            return Math.abs(get(X, one) - get(X, another)) + Math.abs(get(Y, one) - get(Y, another));
        }

        int addPost(int x, int y, int cold) {
            int number = postCount;
            cells[BASE[X] + number] = x;
            cells[BASE[Y] + number] = y;
            cells[BASE[COLD] + number] = cold;
            postCount++;
            return number;
        }

        int become(int cell, int v) {
            int was = cells[cell];
            if (v != was) {
                makeRoom();
                int slot = (oldest + done) % MOST_KEPT;
                changed[slot] = cell;
                before[slot] = was;
                after[slot] = v;
                done++;
                undone = 0;
                cells[cell] = v;
            }
            return was;
        }

        private void makeRoom() {
            if (done == MOST_KEPT) {
                oldest = (oldest + 1) % MOST_KEPT;
                done--;
            }
        }

        int takeBack() {
            if (done == 0) {
                return STATE;
            }
            done--;
            undone++;
            int slot = (oldest + done) % MOST_KEPT;
            cells[changed[slot]] = before[slot];
            return done;
        }

        int doAgain() {
            if (undone == 0) {
                return STATE;
            }
            int slot = (oldest + done) % MOST_KEPT;
            cells[changed[slot]] = after[slot];
            done++;
            undone--;
            return undone;
        }
    }

    /** THE TAPE, and THE LAW as steps for a small stack: a text is read once, but asked very often. */
    private static final class Law {
        private static final int TAPE = 120, MOST_OPEN = 6, MOST_DIGITS = 4, STACK = 64;
        private static final int END = -';', TEST = -'?', NEGATE = -1, DENY = -'!';
        private static final int COMPARING = 2, TIGHTEST = 5;

        int fed;
        private final int[] tape = new int[TAPE];
        private int at;
        private boolean broken;
        private int[] spare = new int[TAPE + 1];
        private int made;
        private int[] steps = new int[TAPE + 1];
        private int stepCount;
        private final int[] stack = new int[STACK];
        private int height;

        int take(int letter) {
            if (letter < 0 || letter > 255) {
                return BAD;
            }
            if (fed >= TAPE) {
                return FULL;
            }
            tape[fed] = letter;
            fed++;
            return fed;
        }

        int proclaim() {
            readText();
            fed = 0;
            if (broken) {
                return -100 - at;
            }
            int[] former = steps;
            steps = spare;
            spare = former;
            stepCount = made;
            return 1;
        }

        /** Leaves at on the FAULT, if it is broken. */
        private void readText() {
            at = 0;
            made = 0;
            broken = false;
            for (int line = 0; line <= TAPE && !broken; line++) {
                readExpression(0, 0);
                if (!broken && skips('?')) {
                    add(TEST);
                    readExpression(0, 0);
                }
                add(END);
                if (broken || at >= fed) {
                    return;
                }
                broken = !skips(';');
            }
        }

        private void readExpression(int level, int open) {
            if (level >= TIGHTEST) {
                readOperand(open);
                return;
            }
            readExpression(level + 1, open);
            for (int i = 0; i < TAPE && !broken; i++) {
                int sign = next();
                if (!isSign(sign, level)) {
                    return;
                }
                at++;
                readExpression(level + 1, open);
                add(-sign);
                if (level == COMPARING) {
                    return;
                }
            }
        }

        private void readOperand(int open) {
            int sign = next();
            if (isDigit(sign)) {
                readNumber();
            } else if (isName(sign)) {
                at++;
                add(-sign);
            } else if (open >= MOST_OPEN) {
                broken = true;
            } else if (skips('(')) {
                readExpression(0, open + 1);
                broken = broken || !skips(')');
            } else if (skips('!')) {
                readOperand(open + 1);
                add(DENY);
            } else if (skips('-')) {
                readOperand(open + 1);
                add(NEGATE);
            } else {
                broken = true;
            }
        }

        private void readNumber() {
            int value = 0;
            for (int i = 0; i < MOST_DIGITS && isDigit(next()); i++) {
                value = value * 10 + next() - '0';
                at++;
            }
            add(value);
        }

        private int next() {
            return at < fed ? tape[at] : -1;
        }

        private boolean skips(int sign) {
            if (next() != sign) {
                return false;
            }
            at++;
            return true;
        }

        private void add(int step) {
            if (made < spare.length) {
                spare[made] = step;
                made++;
            }
        }

        private static boolean isDigit(int sign) {
            return sign >= '0' && sign <= '9';
        }

        private static boolean isName(int sign) {
            return sign == 'y' || sign == 'n' || sign == 'c' || sign == 'p' || sign == 'w' || sign == 'l';
        }

        private static boolean isSign(int sign, int level) {
            switch (level) {
                case 0: return sign == '|';
                case 1: return sign == '&';
                case COMPARING: return sign == '<' || sign == '=' || sign == '>';
                case 3: return sign == '+' || sign == '-';
                default: return sign == '*' || sign == '/' || sign == '%';
            }
        }

        int mishearing(Numbers numbers, int word, int post, int ahead) {
            if (post == 0) {
                return 0;
            }
            int given = stepCount == 0
                ? numbers.get(COLD, post) + ahead - numbers.get(LONG, word)
                : workOut(numbers, word, post, ahead);
            return Math.max(0, Math.min(TWELVE, given));
        }

        private int workOut(Numbers numbers, int word, int post, int ahead) {
            height = 0;
            boolean skipping = false;
            for (int i = 0; i < stepCount; i++) {
                int step = steps[i];
                if (skipping) {
                    skipping = step != END;
                } else if (step == END) {
                    return pop();
                } else if (step == TEST) {
                    skipping = pop() == 0;
                } else if (step >= 0) {
                    push(step);
                } else if (isName(-step)) {
                    push(valueOf(-step, numbers, word, post, ahead));
                } else {
                    doStep(step);
                }
            }
            return 0;
        }

        private static int valueOf(int name, Numbers numbers, int word, int post, int ahead) {
            int letters = numbers.get(LONG, word);
            switch (name) {
                case 'y': return letters;
                case 'n': return ahead;
                case 'c': return numbers.get(COLD, post);
                case 'p': return post;
                case 'w': return word;
                default: return Math.abs(letters - numbers.get(LONG, numbers.get(LIKE, word)));
            }
        }

        private void doStep(int step) {
            int right = pop();
            if (step == NEGATE) {
                push(-right);
            } else if (step == DENY) {
                push(right == 0 ? 1 : 0);
            } else {
                push(joined(-step, pop(), right));
            }
        }

        private static int joined(int sign, int left, int right) {
            switch (sign) {
                case '|': return left != 0 || right != 0 ? 1 : 0;
                case '&': return left != 0 && right != 0 ? 1 : 0;
                case '<': return left < right ? 1 : 0;
                case '=': return left == right ? 1 : 0;
                case '>': return left > right ? 1 : 0;
                case '+': return left + right;
                case '-': return left - right;
                case '*': return left * right;
                case '/': return right == 0 ? 0 : left / right;
                default: return right == 0 ? 0 : left % right;
            }
        }

        private void push(int value) {
            if (height < STACK) {
                stack[height] = value;
                height++;
            }
        }

        private int pop() {
            if (height == 0) {
                return 0;
            }
            height--;
            return stack[height];
        }
    }

    /** SHELVES, each with its own stretch of one row of longs. */
    private static final class Shelves {
        static final int SHELVES = 6, LONGEST = 60, SORTS = 5, NOTHING = -1, BODY = -2;

        final int[] sorts = new int[SHELVES];
        final int[] sizes = new int[SHELVES];
        final int[] kept = new int[SHELVES];
        private final long[] elements = new long[SHELVES * LONGEST];

        Shelves() {
            for (int s = 0; s < SHELVES; s++) {
                sorts[s] = NOTHING;
            }
        }

        boolean isShelf(int shelf) {
            return shelf >= 0 && shelf < SHELVES;
        }

        /** Why there is no ROW of that sort; 0: there is one. */
        int refusal(int shelf, int sort) {
            if (!isShelf(shelf)) {
                return BAD;
            }
            if (sorts[shelf] == NOTHING) {
                return NOTHING_THERE;
            }
            return sorts[shelf] == sort ? 0 : OTHER_KIND;
        }

        int refusalOfPlace(int shelf, int i) {
            if (!isShelf(shelf)) {
                return BAD;
            }
            if (sorts[shelf] < 0) {
                return sorts[shelf] == NOTHING ? NOTHING_THERE : OTHER_KIND;
            }
            return i >= 0 && i < sizes[shelf] ? 0 : NO_SUCH_PLACE;
        }

        void hold(int shelf, int body) {
            sorts[shelf] = body < 0 ? NOTHING : BODY;
            sizes[shelf] = 0;
            kept[shelf] = body;
        }

        void layRow(int shelf, int sort, int n) {
            sorts[shelf] = sort;
            sizes[shelf] = n;
            for (int i = 0; i < n; i++) {
                elements[shelf * LONGEST + i] = 0;
            }
        }

        long read(int shelf, int i) {
            return refusalOfPlace(shelf, i) == 0 ? elements[shelf * LONGEST + i] : 0;
        }

        void write(int shelf, int i, long v) {
            if (refusalOfPlace(shelf, i) == 0) {
                elements[shelf * LONGEST + i] = narrowed(sorts[shelf], v);
            }
        }

        private static long narrowed(int sort, long v) {
            switch (sort) {
                case BYTES: return (byte) v;
                case SHORTS: return (short) v;
                case 2: return (int) v;
                case 3: return v;
                default: return v != 0 ? 1 : 0;
            }
        }

        int move(int shelf, int i, int other, int j, int n) {
            if (sorts[shelf] == NOTHING || sorts[other] == NOTHING) {
                return NOTHING_THERE;
            }
            if (sorts[shelf] == BODY || sorts[other] != sorts[shelf]) {
                return OTHER_KIND;
            }
            if (n < 0 || i < 0 || j < 0 || i > sizes[shelf] - n || j > sizes[other] - n) {
                return NO_SUCH_PLACE;
            }
            System.arraycopy(elements, shelf * LONGEST + i, elements, other * LONGEST + j, n);
            return n;
        }
    }

    /** A ROUTE, when it comes to each POST, and who is let in by it. */
    private static final class Way {
        int length;
        final int[] order = new int[MOST_TOLD];
        /** By POST: how many were told ahead of it; -1: it is not in the ROUTE. */
        final int[] places = new int[MOST_POSTS];
        private final int[] behind = new int[MOST_POSTS];

        void readFrom(Numbers numbers, Shelves shelves, int shelf) {
            clear();
            for (int i = 0; i < shelves.sizes[shelf] && length < MOST_TOLD; i++) {
                int post = (int) shelves.read(shelf, i);
                if (post == 0 || !numbers.isPost(post) || places[post] >= 0) {
                    return;
                }
                goTo(numbers, post);
            }
        }

        void takeWithFirst(Numbers numbers, Way other, int first) {
            clear();
            goTo(numbers, other.order[first]);
            for (int i = 0; i < other.length; i++) {
                if (i != first) {
                    goTo(numbers, other.order[i]);
                }
            }
        }

        private void clear() {
            length = 0;
            for (int p = 0; p < MOST_POSTS; p++) {
                places[p] = -1;
            }
        }

        private void goTo(Numbers numbers, int post) {
            int from = length == 0 ? 0 : order[length - 1];
            behind[post] = (length == 0 ? 0 : behind[from] + 1) + numbers.apart(from, post);
            places[post] = length;
            order[length] = post;
            length++;
        }

        int latest() {
            return length == 0 ? 0 : behind[order[length - 1]];
        }

        int together() {
            int all = 0;
            for (int i = 0; i < length; i++) {
                all += behind[order[i]];
            }
            return all;
        }

        /** How many minutes behind AT; NEVER: it is not in the ROUTE. */
        int behindStart(int post) {
            if (post == 0) {
                return 0;
            }
            return places[post] < 0 ? NEVER : behind[post];
        }

        int hearing(Numbers numbers, int post) {
            int minutes = behindStart(post);
            return minutes == NEVER ? NEVER : numbers.the(AT) + minutes;
        }

        int lets(Numbers numbers, int post, int minute) {
            int heard = hearing(numbers, post);
            boolean old = minute < heard + numbers.the(HOLDS);
            boolean fresh = minute >= heard;
            if (numbers.areAlike()) {
                return 3;
            }
            return (old ? 1 : 0) + (fresh ? 2 : 0);
        }

        /** heard: NEW, or what the POST has instead. */
        boolean admits(Numbers numbers, int post, int minute, int word, int heard) {
            int heardIn = hearing(numbers, post);
            if (word == numbers.the(OLD) && minute < heardIn + numbers.the(HOLDS)) {
                return true;
            }
            return word == heard && minute >= heardIn;
        }

        boolean goesIn(Numbers numbers, int patrol, int heard) {
            int by = numbers.get(BY, patrol);
            return numbers.isPost(by)
                && admits(numbers, by, numbers.get(HOME, patrol), known(numbers, patrol), heard);
        }

        private static int known(Numbers numbers, int patrol) {
            return numbers.the(numbers.get(OUT, patrol) >= numbers.the(AT) ? NEW : OLD);
        }

        /** misheard: the POSTS (bits) that have LIKE instead of NEW. */
        int patrolsIn(Numbers numbers, int misheard) {
            int fresh = numbers.the(NEW);
            int like = numbers.get(LIKE, fresh);
            int all = 0;
            for (int p = 0; p < PATROLS; p++) {
                boolean wrong = (misheard >> numbers.get(BY, p) & 1) != 0;
                if (goesIn(numbers, p, wrong ? like : fresh)) {
                    all++;
                }
            }
            return all;
        }

        /** The least HOLDS by which the PATROL is let in; NEVER: by none. */
        int holdsNeeded(Numbers numbers, int patrol) {
            int by = numbers.get(BY, patrol);
            if (!numbers.isPost(by)) {
                return NEVER;
            }
            int since = numbers.get(HOME, patrol) - hearing(numbers, by);
            int word = known(numbers, patrol);
            if (word == numbers.the(NEW) && since >= 0) {
                return 0;
            }
            return word == numbers.the(OLD) ? Math.max(0, since + 1) : NEVER;
        }
    }

    /** How likely the POSTS of a ROUTE hear a WORD right. */
    private static final class Chances {
        static final int BELOW = TWELVE * TWELVE;

        int seed;
        private final int[] misheard = new int[MOST_POSTS];
        private final int[] once = new int[MOST_POSTS];
        private final int[] again = new int[MOST_POSTS];

        void weigh(Numbers numbers, Law law, Way way, int word) {
            for (int p = 1; p < MOST_POSTS; p++) {
                once[p] = 0;
                again[p] = 0;
            }
            once[0] = BELOW;
            again[0] = BELOW;
            for (int i = 0; i < way.length; i++) {
                int post = way.order[i];
                int wrong = law.mishearing(numbers, word, post, i);
                misheard[post] = wrong;
                once[post] = TWELVE * (TWELVE - wrong);
                again[post] = BELOW - wrong * wrong;
            }
        }

        int ofOne(int post, int twice) {
            return (twice >> post & 1) != 0 ? again[post] : once[post];
        }

        long ofAll(Way way, int twice) {
            long product = 1;
            for (int i = 0; i < way.length; i++) {
                product *= ofOne(way.order[i], twice);
            }
            return product;
        }

        long belowAll(Way way) {
            long product = 1;
            for (int i = 0; i < way.length; i++) {
                product *= BELOW;
            }
            return product;
        }

        int together(Way way, int twice) {
            int all = 0;
            for (int i = 0; i < way.length; i++) {
                all += ofOne(way.order[i], twice);
            }
            return all;
        }

        int bestSet(Way way, int n) {
            int mayBeIn = 0;
            for (int i = 0; i < way.length; i++) {
                mayBeIn |= 1 << way.order[i];
            }
            int best = 0;
            long most = -1;
            for (int set = 0; set < 1 << MOST_POSTS; set++) {
                if ((set & ~mayBeIn) == 0 && Integer.bitCount(set) == n && ofAll(way, set) > most) {
                    most = ofAll(way, set);
                    best = set;
                }
            }
            return best;
        }

        /** The POSTS (bits) that mishear it; the seed goes on into the next night. */
        int drawNight(Way way) {
            int wrong = 0;
            for (int i = 0; i < way.length; i++) {
                seed = seed * 1103515245 + 12345;
                int post = way.order[i];
                if ((seed >>> 8) % TWELVE < misheard[post]) {
                    wrong |= 1 << post;
                }
            }
            return wrong;
        }
    }

    /** What was SAID, turned into the minutes from which and to which each POST may have heard NEW. */
    private static final class Said {
        private final int[] from = new int[MOST_POSTS];
        private final int[] to = new int[MOST_POSTS];

        /** False: it holds a three that is so by no ROUTE and no AT. */
        boolean read(Numbers numbers, Shelves shelves, int shelf, int fresh) {
            for (int p = 0; p < MOST_POSTS; p++) {
                from[p] = -NEVER;
                to[p] = NEVER;
            }
            int size = shelves.sizes[shelf];
            if (size % 3 != 0) {
                return false;
            }
            for (int i = 0; i < size; i += 3) {
                int post = (int) shelves.read(shelf, i);
                int minute = (int) shelves.read(shelf, i + 1);
                int word = (int) shelves.read(shelf, i + 2);
                if (!mayBe(numbers, post, minute, word) || !narrow(numbers, post, minute, word, fresh)) {
                    return false;
                }
            }
            return true;
        }

        /** Of a minute the document tells no last one here: POSTS may hear NEW behind minute 999, too. */
        static boolean mayBe(Numbers numbers, int post, int minute, int word) {
            return numbers.isPost(post) && minute >= 0 && numbers.mayBe(NEW, word);
        }

        private boolean narrow(Numbers numbers, int post, int minute, int word, int fresh) {
            int old = numbers.the(OLD);
            if (word != old && word != fresh) {
                return false;
            }
            if (word != old) {
                to[post] = Math.min(to[post], minute);
            } else if (word != fresh) {
                from[post] = Math.max(from[post], minute - numbers.the(HOLDS) + 1);
            }
            return true;
        }

        boolean fits(int post, int heard) {
            return from[post] <= heard && heard <= to[post];
        }

        boolean fitsAll(Numbers numbers, Way way) {
            for (int p = 0; p < numbers.postCount; p++) {
                if (!fits(p, way.hearing(numbers, p))) {
                    return false;
                }
            }
            return true;
        }

        int leastStart(Numbers numbers, Way way) {
            int earliest = 0;
            int latest = MINUTES - 1;
            for (int p = 0; p < numbers.postCount; p++) {
                int behind = way.behindStart(p);
                if (behind != NEVER) {
                    earliest = Math.max(earliest, from[p] - behind);
                    latest = Math.min(latest, to[p] - behind);
                } else if (to[p] != NEVER) {
                    return NOT;
                }
            }
            return earliest <= latest ? earliest : NOT;
        }
    }

    /** All ROUTES over all POSTS but 0, as they come by numbers. */
    private static final class Search {
        int bestCost;
        final int[] best = new int[MOST_TOLD];
        int ways;
        int firstWay;
        private int others;
        private int rule;
        private final int[] order = new int[MOST_TOLD];
        private final int[] apart = new int[MOST_POSTS * MOST_POSTS];

        void findBest(Numbers numbers, int byRule) {
            rule = byRule;
            bestCost = NEVER;
            measure(numbers);
            goOn(0, 0, 0, 0);
        }

        /** The same few ways are gone many hundred times. */
        private void measure(Numbers numbers) {
            others = Math.max(0, numbers.postCount - 1);
            for (int p = 0; p <= others; p++) {
                for (int q = 0; q <= others; q++) {
                    apart[p * MOST_POSTS + q] = numbers.apart(p, q);
                }
            }
        }

        private void goOn(int depth, int used, int minutes, int cost) {
            // Of like ones the first is kept: one that can't be less need not be gone to its end.
            if (cost + leastToCome(others - depth, minutes) >= bestCost) {
                return;
            }
            if (depth >= others) {
                bestCost = cost;
                System.arraycopy(order, 0, best, 0, MOST_TOLD);
                return;
            }
            for (int p = 1; p <= others; p++) {
                if ((used >> p & 1) == 0) {
                    int heard = minutes + stepTo(depth, p);
                    order[depth] = p;
                    goOn(depth + 1, used | 1 << p, heard, rule == 0 ? heard : cost + heard);
                }
            }
        }

        /** Each POST that is left hears it no earlier than the one at which the RUNNER is. */
        private int leastToCome(int left, int minutes) {
            return rule == 0 ? 0 : left * minutes;
        }

        private int stepTo(int depth, int post) {
            return depth == 0 ? apart[post] : 1 + apart[order[depth - 1] * MOST_POSTS + post];
        }

        void countWays(Numbers numbers, Said said) {
            ways = 0;
            firstWay = NOT;
            measure(numbers);
            if (said.fits(0, numbers.the(AT))) {
                tryOn(said, 0, 0, numbers.the(AT), 0);
            }
        }

        private void tryOn(Said said, int depth, int used, int minute, int digits) {
            if (depth >= others) {
                firstWay = ways == 0 ? digits : firstWay;
                ways++;
                return;
            }
            for (int p = 1; p <= others; p++) {
                int heard = minute + stepTo(depth, p);
                if ((used >> p & 1) == 0 && said.fits(p, heard)) {
                    order[depth] = p;
                    tryOn(said, depth + 1, used | 1 << p, heard, digits * 10 + p);
                }
            }
        }
    }

    /** A night in deed, and the image of one. */
    private static final class Deed {
        static final int CHANGES = 0, TELLINGS = 1, LAST_MINUTE = 9999;
        private static final int ASKED = 2, LET_IN = 3;

        int now;
        final int[] has = new int[MOST_POSTS];
        private final int[] had = new int[MOST_POSTS];
        private final int[] since = new int[MOST_POSTS];
        final int[] led = new int[4];
        /** How many POSTS the image has; -1: there is none. */
        int depicted = -1;
        private int nowThen;
        private final int[] hasThen = new int[MOST_POSTS];
        private final int[] hadThen = new int[MOST_POSTS];
        private final int[] sinceThen = new int[MOST_POSTS];
        private final int[] ledThen = new int[4];

        void forget(int post, int old) {
            has[post] = old;
            had[post] = VOID;
            since[post] = now;
        }

        int give(int post, int word) {
            int was = has[post];
            had[post] = was;
            has[post] = word;
            since[post] = now;
            return was;
        }

        int answer(int post, int word, int holds) {
            boolean goesIn = word == has[post] || word == had[post] && now - since[post] < holds;
            led[ASKED]++;
            if (goesIn) {
                led[LET_IN]++;
            }
            return goesIn ? 1 : 0;
        }

        void depict(int postCount) {
            depicted = postCount;
            nowThen = now;
            System.arraycopy(has, 0, hasThen, 0, MOST_POSTS);
            System.arraycopy(had, 0, hadThen, 0, MOST_POSTS);
            System.arraycopy(since, 0, sinceThen, 0, MOST_POSTS);
            System.arraycopy(led, 0, ledThen, 0, led.length);
        }

        void layBack(int old) {
            now = nowThen;
            System.arraycopy(hasThen, 0, has, 0, MOST_POSTS);
            System.arraycopy(hadThen, 0, had, 0, MOST_POSTS);
            System.arraycopy(sinceThen, 0, since, 0, MOST_POSTS);
            System.arraycopy(ledThen, 0, led, 0, led.length);
            for (int p = depicted; p < MOST_POSTS; p++) {
                forget(p, old);
            }
        }
    }

    /** BODIES, and the acts that their KINDS have or take from above. */
    private static final class Bodies {
        static final int KINDS = 8, MOST_TRACED = 24;
        private static final int MOST_BODIES = 50, ACTS = 4, DEEPEST = 40;
        private static final int SAYS = 0, HEARS = 1, HOLDS_ACT = 2, TELLS = 3;
        private static final int[] ABOVE = {-1, 0, 0, 2, 1, 3, 0, 6};
        /** By KIND, four ACTS each: the body of its own; 0: it has none. */
        private static final int[] OWN = {
            1, 10, 11, 2,
            20, 0, 0, 0,
            0, 30, 0, 0,
            0, 41, 40, 0,
            0, 0, 0, 50,
            0, 0, 60, 61,
            70, 0, 0, 0,
            81, 80, 0, 0,
        };

        int amount;
        int ran;
        final int[] traced = new int[MOST_TRACED];
        private final int[] kinds = new int[MOST_BODIES];
        /** Whose ACT it is. */
        private int acting;

        int add(int kind) {
            if (kind < 0 || kind >= KINDS) {
                return BAD;
            }
            if (amount >= MOST_BODIES) {
                return FULL;
            }
            kinds[amount] = kind;
            amount++;
            return amount - 1;
        }

        int kindOf(int number) {
            return number >= 0 && number < amount ? kinds[number] : -1;
        }

        static boolean isUnder(int kind, int top) {
            int k = kind;
            for (int step = 0; step < KINDS && k >= 0; step++) {
                if (k == top) {
                    return true;
                }
                k = ABOVE[k];
            }
            return false;
        }

        int perform(int number, int action, int x) {
            ran = 0;
            if (kindOf(number) < 0 || action < 0 || action >= ACTS) {
                return 0;
            }
            acting = number;
            return own(action, x, 0);
        }

        private int own(int action, int x, int depth) {
            return runFrom(kindOf(acting), action, x, depth);
        }

        /** The body of that KIND, or of the next KIND above that has one. */
        private int runFrom(int kind, int action, int x, int depth) {
            int k = kind;
            for (int step = 0; step < KINDS && k >= 0 && OWN[k * ACTS + action] == 0; step++) {
                k = ABOVE[k];
            }
            if (k < 0 || depth >= DEEPEST) {
                return 0;
            }
            int chosen = OWN[k * ACTS + action];
            if (ran < MOST_TRACED) {
                traced[ran] = chosen;
            }
            ran++;
            return k == 0 ? runOfWord(chosen, x, depth + 1) : runUnderWord(chosen, ABOVE[k], x, depth + 1);
        }

        private int runOfWord(int chosen, int x, int depth) {
            switch (chosen) {
                case 1: return x + acting;
                case 10: return own(SAYS, x, depth) * 2;
                case 11: return x ^ acting;
                default: return own(HEARS, x, depth) - own(HOLDS_ACT, 1, depth);
            }
        }

        private int runUnderWord(int chosen, int above, int x, int depth) {
            switch (chosen) {
                case 20: return runFrom(above, SAYS, x, depth) + 3;
                case 30: return -runFrom(above, HEARS, x, depth);
                case 40: return runFrom(above, HOLDS_ACT, x, depth) * 3;
                case 41: return runFrom(above, HEARS, x + 1, depth);
                case 50: return runFrom(above, TELLS, x, depth) ^ 5;
                case 60: return runFrom(above, HOLDS_ACT, x, depth) - own(SAYS, 2, depth);
                case 61: return runFrom(above, TELLS, x, depth) + 1;
                case 70: return runFrom(above, SAYS, x, depth) * 2;
                case 80: return runFrom(above, HEARS, x, depth) + own(HOLDS_ACT, 2, depth);
                default: return runFrom(above, SAYS, x, depth) - 1;
            }
        }
    }
}
