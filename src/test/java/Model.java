import java.math.BigInteger;
import java.util.ArrayDeque;
import java.util.ArrayList;
import java.util.Arrays;
import java.util.List;
import java.util.function.IntPredicate;

/**
 * The document once more, as plainly as the Java library allows and by other means than the class:
 * every HOLDS and every AT is tried, every ROUTE is made, rows are Java's own arrays, kinds are
 * Java's own classes. Only for comparing with WordChanged.
 */
public final class Model {
    static final int BAD = -1, NOT = -2, FULL = -3, STATE = -5;
    static final long NONE = Long.MIN_VALUE;
    private static final int[] LEAST = {0, 0, 0, 1, 0, 0, 0, 0, 0, 0, 0, 0};
    private static final int[] MOST = {99, 99, 12, 9, 9, 999, 999, 6, 9, 9, 999, 999};

    private final List<int[]> posts = new ArrayList<>();
    private final int[][] words = new int[10][];
    private final int[][] patrols = new int[4][3];
    private final int[] single = {0, 1, 0, 60};

    private final StringBuilder tape = new StringBuilder();
    private String law;
    private final Object[] shelves = new Object[6];
    private final List<Word> bodies = new ArrayList<>();
    private final List<Integer> ran = new ArrayList<>();
    private final ArrayDeque<int[]> done = new ArrayDeque<>();
    private final ArrayDeque<int[]> undone = new ArrayDeque<>();

    private int now;
    private List<int[]> deeds = new ArrayList<>();
    private int[] led = new int[4];
    private int imageNow;
    private List<int[]> imageDeeds;
    private int[] imageLed;

    public Model() {
        for (int w = 0; w < 10; w++) {
            words[w] = new int[] {3, (w + 1) % 10};
        }
    }

    private int old() { return single[0]; }
    private int fresh() { return single[1]; }
    private int at() { return single[2]; }
    private int holds() { return single[3]; }

    // ---- posts, words, patrols

    public int post(int x, int y) {
        if (x < 0 || x > 99 || y < 0 || y > 99) return BAD;
        if (posts.size() == 7) return FULL;
        posts.add(new int[] {x, y, 0});
        deeds.add(new int[] {old(), -1, 0});
        return posts.size() - 1;
    }

    public int posts(int shelf, int i, int n) {
        if (shelf < 0 || shelf > 5 || n < 1 || n > 7) return BAD;
        Object held = shelves[shelf];
        if (held == null) return 0;
        if (!(held instanceof byte[])) return -12;
        byte[] row = (byte[]) held;
        int came = 0;
        for (long from = i; came < n; from += 3) {
            if (from < 0 || from + 2 >= row.length || posts.size() == 7) break;
            int at = (int) from;
            if (row[at + 2] < 0 || row[at + 2] > 12 || post(row[at], row[at + 1]) < 0) break;
            posts.get(posts.size() - 1)[2] = row[at + 2];
            came++;
        }
        return came;
    }

    private int[] holder(int number, int what) {
        if (what < 0 || what > 11 || number < 0) return null;
        if (what < 3) return number < posts.size() ? posts.get(number) : null;
        if (what < 5) return number < 10 ? words[number] : null;
        if (what < 8) return number < 4 ? patrols[number] : null;
        return number == 0 ? single : null;
    }

    private static int place(int what) {
        return what < 3 ? what : what < 5 ? what - 3 : what < 8 ? what - 5 : what - 8;
    }

    public int mend(int number, int what, int v) {
        int[] holder = holder(number, what);
        if (holder == null || v < LEAST[what] || v > MOST[what]) return BAD;
        int was = holder[place(what)];
        if (was == v) return was;
        holder[place(what)] = v;
        done.addLast(new int[] {number, what, was, v});
        undone.clear();
        if (done.size() > 40) done.removeFirst();
        return was;
    }

    public int of(int number, int what) {
        if (what == 12) return number >= 0 && number < posts.size() ? deeds.get(number)[0] : BAD;
        if (what == 13) return number == 0 ? now : BAD;
        int[] holder = holder(number, what);
        return holder == null ? BAD : holder[place(what)];
    }

    public int feed(int letter) {
        if (letter < 0 || letter > 255) return BAD;
        if (tape.length() == 120) return FULL;
        tape.append((char) letter);
        return tape.length();
    }

    public int law() {
        String text = tape.toString();
        tape.setLength(0);
        int fault = fault(text);
        if (fault >= 0) return -100 - fault;
        law = text;
        return 1;
    }

    /** An automaton over bytes: what is open is a text of ( and of u (a sign ahead of an O). */
    static int fault(String text) {
        String open = "";
        boolean[] compared = new boolean[8];
        boolean wantsOperand = true;
        boolean asked = false;
        int digits = 0;
        for (int i = 0; i < text.length(); i++) {
            char c = text.charAt(i);
            int inner = open.replace("u", "").length();
            if (wantsOperand) {
                if (c == '(' || c == '!' || c == '-') {
                    if (open.length() == 6) return i;
                    open += c == '(' ? "(" : "u";
                    if (c == '(') compared[inner + 1] = false;
                    continue;
                }
                if (Character.digit(c, 10) < 0 && "yncpwl".indexOf(c) < 0) return i;
                digits = Character.digit(c, 10) < 0 ? 0 : 1;
                wantsOperand = false;
                while (open.endsWith("u")) open = open.substring(0, open.length() - 1);
                continue;
            }
            if (digits > 0 && Character.digit(c, 10) >= 0) {
                digits++;
                if (digits > 4) return i;
                continue;
            }
            digits = 0;
            if (c == ')') {
                if (inner == 0) return i;
                open = open.substring(0, open.length() - 1);
                while (open.endsWith("u")) open = open.substring(0, open.length() - 1);
                continue;
            }
            wantsOperand = true;
            if (c == '|' || c == '&') {
                compared[inner] = false;
            } else if (c == '<' || c == '=' || c == '>') {
                if (compared[inner]) return i;
                compared[inner] = true;
            } else if (c == '?' && inner == 0 && !asked) {
                asked = true;
                compared[0] = false;
            } else if (c == ';' && inner == 0) {
                asked = false;
                compared[0] = false;
            } else if ("+-*/%".indexOf(c) < 0) {
                return i;
            }
        }
        return wantsOperand || open.length() > 0 ? text.length() : -1;
    }

    private static int cut(String text, String signs) {
        int depth = 0;
        for (int i = text.length() - 1; i > 0; i--) {
            char c = text.charAt(i);
            if (c == ')') depth++;
            if (c == '(') depth--;
            boolean joins = "0123456789yncpwl)".indexOf(text.charAt(i - 1)) >= 0;
            if (depth == 0 && joins && signs.indexOf(c) >= 0) return i;
        }
        return -1;
    }

    /** By cutting the text at its loosest sign that stands last. */
    static int value(String text, int[] names) {
        for (String signs : new String[] {"|", "&", "<=>", "+-", "*/%"}) {
            int at = cut(text, signs);
            if (at > 0) {
                int a = value(text.substring(0, at), names);
                int b = value(text.substring(at + 1), names);
                switch (text.charAt(at)) {
                    case '|': return a != 0 | b != 0 ? 1 : 0;
                    case '&': return a != 0 & b != 0 ? 1 : 0;
                    case '<': return a < b ? 1 : 0;
                    case '=': return a == b ? 1 : 0;
                    case '>': return a > b ? 1 : 0;
                    case '+': return a + b;
                    case '-': return a - b;
                    case '*': return a * b;
                    case '/': return b == 0 ? 0 : a / b;
                    default: return b == 0 ? 0 : a % b;
                }
            }
        }
        char c = text.charAt(0);
        if (c == '!') return value(text.substring(1), names) == 0 ? 1 : 0;
        if (c == '-') return -value(text.substring(1), names);
        if (c == '(') return value(text.substring(1, text.length() - 1), names);
        int name = "yncpwl".indexOf(c);
        return name >= 0 ? names[name] : Integer.parseInt(text);
    }

    private int mishearing(int word, int post, int ahead) {
        if (post == 0) return 0;
        int y = words[word][0];
        int cold = posts.get(post)[2];
        int given = cold + ahead - y;
        if (law != null) {
            int l = Math.abs(y - words[words[word][1]][0]);
            int[] names = {y, ahead, cold, post, word, l};
            given = 0;
            for (String line : law.split(";")) {
                String[] both = line.split("\\?");
                if (both.length == 1 || value(both[0], names) != 0) {
                    given = value(both[both.length - 1], names);
                    break;
                }
            }
        }
        return given < 0 ? 0 : given > 12 ? 12 : given;
    }

    public int mishears(int pn) {
        if (pn < 0 || pn / 10 >= posts.size() || pn % 10 > 6) return BAD;
        return mishearing(fresh(), pn / 10, pn % 10);
    }

    // ---- in thought

    private int kindOfRefusal(int shelf, Class<?> wanted) {
        if (shelf < 0 || shelf > 5) return BAD;
        if (shelves[shelf] == null) return -11;
        return shelves[shelf].getClass() == wanted ? 0 : -12;
    }

    private int refusal(int shelf) {
        return kindOfRefusal(shelf, byte[].class);
    }

    private List<Integer> read(int shelf) {
        List<Integer> route = new ArrayList<>();
        for (byte b : (byte[]) shelves[shelf]) {
            if (b <= 0 || b >= posts.size() || route.contains((int) b)) break;
            route.add((int) b);
        }
        return route;
    }

    private int apart(int p, int q) {
        int[] a = posts.get(p);
        int[] b = posts.get(q);
        return Math.abs(a[0] - b[0]) + Math.abs(a[1] - b[1]);
    }

    /** By POST, behind AT; null: it is not in it. */
    private Integer[] walk(List<Integer> route) {
        Integer[] heard = new Integer[7];
        heard[0] = 0;
        int minute = 0;
        int from = 0;
        for (int p : route) {
            minute += apart(from, p);
            heard[p] = minute;
            minute++;
            from = p;
        }
        return heard;
    }

    public int hears(int shelf, int post) {
        if (post < -2 || post >= posts.size()) return BAD;
        if (refusal(shelf) != 0) return refusal(shelf);
        List<Integer> route = read(shelf);
        Integer[] heard = walk(route);
        if (post >= 0) return heard[post] == null ? NOT : at() + heard[post];
        int latest = 0;
        int all = 0;
        for (int p : route) {
            latest = Math.max(latest, heard[p]);
            all += heard[p];
        }
        return post == -1 ? at() + latest : all;
    }

    private List<List<Integer>> allRoutes() {
        List<List<Integer>> all = new ArrayList<>();
        all.add(new ArrayList<>());
        for (int step = 1; step < posts.size(); step++) {
            List<List<Integer>> longer = new ArrayList<>();
            for (List<Integer> route : all) {
                for (int p = 1; p < posts.size(); p++) {
                    if (!route.contains(p)) {
                        List<Integer> next = new ArrayList<>(route);
                        next.add(p);
                        longer.add(next);
                    }
                }
            }
            all = longer;
        }
        return all;
    }

    public int route(int rule, int k) {
        if (rule < 0 || rule > 1 || k < -1) return BAD;
        if (k >= 0 && k >= posts.size() - 1) return NOT;
        int least = Integer.MAX_VALUE;
        List<Integer> best = null;
        for (List<Integer> route : allRoutes()) {
            Integer[] heard = walk(route);
            int cost = 0;
            for (int p : route) cost = rule == 0 ? Math.max(cost, heard[p]) : cost + heard[p];
            if (cost < least) {
                least = cost;
                best = route;
            }
        }
        return k < 0 ? least : best.get(k);
    }

    /** Whether a POST lets a WORD in, minute by minute as the document tells it. */
    private static boolean goes(int word, int minute, Integer heard, int old, int has, int holds) {
        if (heard == null || minute < heard) return word == old;
        return word == has || word == old && minute - heard < holds;
    }

    private Integer minute(List<Integer> route, int post) {
        Integer heard = walk(route)[post];
        return heard == null ? null : at() + heard;
    }

    private boolean goes(List<Integer> route, int word, int post, int minute) {
        return goes(word, minute, minute(route, post), old(), fresh(), holds());
    }

    private int bits(List<Integer> route, int pm) {
        int both = 0;
        if (goes(route, old(), pm / 1000, pm % 1000)) both |= 1;
        if (goes(route, fresh(), pm / 1000, pm % 1000)) both |= 2;
        return both;
    }

    private boolean badPm(int pm) {
        return pm < 0 || pm / 1000 >= posts.size();
    }

    public int letsIn(int shelf, int pm) {
        if (badPm(pm)) return BAD;
        return refusal(shelf) != 0 ? refusal(shelf) : bits(read(shelf), pm);
    }

    private int known(int patrol) {
        return patrols[patrol][0] >= at() ? fresh() : old();
    }

    private boolean in(List<Integer> route, int patrol, int has) {
        int[] it = patrols[patrol];
        return it[2] < posts.size() && goes(known(patrol), it[1], minute(route, it[2]), old(), has, holds());
    }

    private int allIn(List<Integer> route) {
        int all = 0;
        for (int p = 0; p < 4; p++) all += in(route, p, fresh()) ? 1 : 0;
        return all;
    }

    public int patrol(int shelf, int patrol) {
        if (patrol < -1 || patrol > 3) return BAD;
        if (refusal(shelf) != 0) return refusal(shelf);
        if (patrol < 0) return 4 - allIn(read(shelf));
        return in(read(shelf), patrol, fresh()) ? 1 : 0;
    }

    private int triedHolds(boolean greatest, IntPredicate isSo) {
        int kept = single[3];
        int found = NOT;
        for (int h = 0; h <= 999; h++) {
            single[3] = h;
            if ((greatest || found == NOT) && isSo.test(h)) found = h;
        }
        single[3] = kept;
        return found;
    }

    public int holdsFor(int shelf) {
        if (refusal(shelf) != 0) return refusal(shelf);
        List<Integer> route = read(shelf);
        return triedHolds(false, h -> allIn(route) == 4);
    }

    private int overheard(List<Integer> route, int pm) {
        return bits(route, pm) == 1 ? old() : fresh();
    }

    public int stranger(int shelf, int pm, int at) {
        if (badPm(pm) || at < 0 || at >= posts.size()) return BAD;
        if (refusal(shelf) != 0) return refusal(shelf);
        List<Integer> route = read(shelf);
        int word = overheard(route, pm);
        int from = pm % 1000;
        if (!goes(route, word, at, from)) return -3;
        for (int m = from; m < 6000; m++) {
            if (!goes(route, word, at, m)) return m;
        }
        return NOT;
    }

    public int safe(int shelf, int pm, int m) {
        if (badPm(pm) || m < 0 || m > 999) return BAD;
        if (refusal(shelf) != 0) return refusal(shelf);
        List<Integer> route = read(shelf);
        return triedHolds(true, h -> {
            for (int p = 0; p < posts.size(); p++) {
                if (goes(route, overheard(route, pm), p, m)) return false;
            }
            return true;
        });
    }

    public int first(int shelf, int what) {
        if (what < 0 || what > 1) return BAD;
        if (refusal(shelf) != 0) return refusal(shelf);
        List<Integer> route = read(shelf);
        int best = NOT;
        int most = NOT;
        for (Integer p : route) {
            List<Integer> other = new ArrayList<>(route);
            other.remove(p);
            other.add(0, p);
            if (allIn(other) > most) {
                most = allIn(other);
                best = p;
            }
        }
        return what == 0 ? best : most;
    }

    private static long part(BigInteger above, BigInteger below, int part) {
        BigInteger divisor = above.gcd(below);
        return (part == 0 ? above : below).divide(divisor).longValueExact();
    }

    private static BigInteger big(long v) {
        return BigInteger.valueOf(v);
    }

    /** Of 144. */
    private int rightOf144(List<Integer> route, int word, int post, int twice) {
        if (post == 0) return 144;
        if (!route.contains(post)) return 0;
        int wrong = mishearing(word, post, route.indexOf(post));
        return (twice >> post & 1) == 1 ? 144 - wrong * wrong : 144 - 12 * wrong;
    }

    private BigInteger allRight(List<Integer> route, int word, int twice) {
        BigInteger above = BigInteger.ONE;
        for (int p : route) above = above.multiply(big(rightOf144(route, word, p, twice)));
        return above;
    }

    public long right(int shelf, int post, int twice, int part) {
        if (post < -2 || post >= posts.size() || twice < 0 || twice >> posts.size() != 0) return NONE;
        if (part < 0 || part > 1 || refusal(shelf) != 0) return NONE;
        List<Integer> route = read(shelf);
        if (post == -1) return part(allRight(route, fresh(), twice), big(144).pow(route.size()), part);
        if (post >= 0) return part(big(rightOf144(route, fresh(), post, twice)), big(144), part);
        int all = 0;
        for (int p : route) all += rightOf144(route, fresh(), p, twice);
        return part(big(all), big(144), part);
    }

    public long twice(int shelf, int n, int part) {
        if (n < 0 || n > 6 || part < 0 || part > 2 || refusal(shelf) != 0) return NONE;
        List<Integer> route = read(shelf);
        int wanted = Math.min(n, route.size());
        BigInteger most = big(-1);
        int best = 0;
        for (int set = 0; set < 128; set++) {
            int in = 0;
            for (int p : route) in += set >> p & 1;
            if (in == wanted && Integer.bitCount(set) == wanted) {
                BigInteger likely = allRight(route, fresh(), set);
                if (likely.compareTo(most) > 0) {
                    most = likely;
                    best = set;
                }
            }
        }
        return part == 2 ? best : part(most, big(144).pow(route.size()), part);
    }

    public int word(int shelf) {
        if (refusal(shelf) != 0) return refusal(shelf);
        List<Integer> route = read(shelf);
        int best = -1;
        for (int w = 9; w >= 0; w--) {
            if (w == old()) continue;
            if (best < 0 || allRight(route, w, 0).compareTo(allRight(route, best, 0)) >= 0) best = w;
        }
        return best;
    }

    public long odds(int shelf, int patrol, int part) {
        if (patrol < 0 || patrol > 3 || part < 0 || part > 1 || refusal(shelf) != 0) return NONE;
        List<Integer> route = read(shelf);
        int by = patrols[patrol][2];
        int wrong = route.contains(by) ? mishearing(fresh(), by, route.indexOf(by)) : 0;
        int above = 0;
        for (int lot = 0; lot < 12; lot++) {
            above += in(route, patrol, lot < wrong ? words[fresh()][1] : fresh()) ? 1 : 0;
        }
        return part(big(above), big(12), part);
    }

    public long guess(int shelf, int pm, int n, int part) {
        if (badPm(pm) || n < 1 || n > 10 || part < 0 || part > 1 || refusal(shelf) != 0) return NONE;
        List<Integer> route = read(shelf);
        int sets = 0;
        int hits = 0;
        for (int set = 0; set < 1024; set++) {
            if (Integer.bitCount(set) != n) continue;
            boolean hit = false;
            for (int w = 0; w < 10; w++) {
                hit |= (set >> w & 1) == 1 && goes(route, w, pm / 1000, pm % 1000);
            }
            sets++;
            hits += hit ? 1 : 0;
        }
        return part(big(hits), big(sets), part);
    }

    // ---- said, drawn

    private int refusalOfBoth(int rs) {
        if (rs < 0 || rs / 10 > 5 || rs % 10 > 5) return BAD;
        int a = kindOfRefusal(rs / 10, byte[].class);
        int b = kindOfRefusal(rs % 10, short[].class);
        return a == -11 || b == -11 ? -11 : a != 0 ? a : b;
    }

    private int judged(List<Integer> route, int shelf) {
        short[] said = (short[]) shelves[shelf];
        for (int i = 0; i < said.length; i += 3) {
            if (i + 2 >= said.length) return i / 3;
            if (said[i] < 0 || said[i] >= posts.size() || said[i + 1] < 0) return i / 3;
            if (said[i + 2] < 0 || said[i + 2] > 9) return i / 3;
            if (!goes(route, said[i + 2], said[i], said[i + 1])) return i / 3;
        }
        return NOT;
    }

    public int judge(int rs) {
        return refusalOfBoth(rs) != 0 ? refusalOfBoth(rs) : judged(read(rs / 10), rs % 10);
    }

    public int which(int shelf, int what) {
        if (what < 0 || what > 1) return BAD;
        int refusal = kindOfRefusal(shelf, short[].class);
        if (refusal != 0) return refusal;
        int ways = 0;
        int first = NOT;
        for (List<Integer> route : allRoutes()) {
            if (judged(route, shelf) == NOT) {
                int digits = 0;
                for (int p : route) digits = digits * 10 + p;
                if (ways == 0) first = digits;
                ways++;
            }
        }
        return what == 0 ? ways : first;
    }

    private int tried(int rs, int place, int most) {
        List<Integer> route = read(rs / 10);
        int kept = single[place];
        int found = NOT;
        for (int v = 0; v <= most && found == NOT; v++) {
            single[place] = v;
            if (judged(route, rs % 10) == NOT) found = v;
        }
        single[place] = kept;
        return found;
    }

    public int when(int rs) {
        return refusalOfBoth(rs) != 0 ? refusalOfBoth(rs) : tried(rs, 2, 999);
    }

    public int oddWord(int rs) {
        return refusalOfBoth(rs) != 0 ? refusalOfBoth(rs) : tried(rs, 1, 9);
    }

    public int drawn(int shelf, int seed, int n, int what) {
        if (n < 1 || n > 30 || what < 0 || what > 1) return BAD;
        if (refusal(shelf) != 0) return refusal(shelf);
        List<Integer> route = read(shelf);
        int z = seed;
        int right = 0;
        int letIn = 0;
        for (int night = 0; night < n; night++) {
            int[] has = new int[7];
            Arrays.fill(has, fresh());
            for (int i = 0; i < route.size(); i++) {
                z = z * 1103515245 + 12345;
                boolean wrong = (z >>> 8) % 12 < mishearing(fresh(), route.get(i), i);
                if (wrong) has[route.get(i)] = words[fresh()][1];
                right += wrong ? 0 : 1;
            }
            for (int p = 0; p < 4; p++) letIn += in(route, p, has[patrols[p][2]]) ? 1 : 0;
        }
        return what == 0 ? right : letIn;
    }

    // ---- in deed

    public int change(int word) {
        if (word < 0 || word > 9) return BAD;
        if (posts.isEmpty()) return STATE;
        led[0]++;
        int was = deeds.get(0)[0];
        deeds.set(0, new int[] {word, was, now});
        return was;
    }

    public int tell(int post) {
        if (post < 1 || post >= posts.size()) return BAD;
        led[1]++;
        int was = deeds.get(post)[0];
        deeds.set(post, new int[] {deeds.get(0)[0], was, now});
        return was;
    }

    public int stay(int n) {
        if (n < 1 || n > 999) return BAD;
        if (now + n > 9999) return STATE;
        now += n;
        return now;
    }

    public int ask(int post, int word) {
        if (post < 0 || post >= posts.size() || word < 0 || word > 9) return BAD;
        int[] deed = deeds.get(post);
        int in = deed[0] == word || deed[1] == word && now < deed[2] + holds() ? 1 : 0;
        led[2]++;
        led[3] += in;
        return in;
    }

    public int led(int what) {
        if (what < 0 || what > 4) return BAD;
        return what == 4 ? now : led[what];
    }

    public int image() {
        imageNow = now;
        imageDeeds = new ArrayList<>(deeds);
        imageLed = led.clone();
        return now;
    }

    public int back() {
        if (imageDeeds == null) return STATE;
        now = imageNow;
        led = imageLed.clone();
        deeds = new ArrayList<>(imageDeeds);
        while (deeds.size() < posts.size()) deeds.add(new int[] {old(), -1, 0});
        return now;
    }

    public int undo() {
        if (done.isEmpty()) return STATE;
        int[] it = done.removeLast();
        undone.addLast(it);
        holder(it[0], it[1])[place(it[1])] = it[2];
        return done.size();
    }

    public int redo() {
        if (undone.isEmpty()) return STATE;
        int[] it = undone.removeLast();
        done.addLast(it);
        holder(it[0], it[1])[place(it[1])] = it[3];
        return undone.size();
    }

    // ---- acts, shelves

    private interface Says {
        int n();
        void began(int body);
        default int says(int x) { began(1); return x + n(); }
    }

    private interface Tells {
        void began(int body);
        int hears(int x);
        int holds(int x);
        default int tells(int x) { began(2); return hears(x) - holds(1); }
    }

    private static class Word implements Says, Tells {
        final int n;
        final int kind;
        final List<Integer> ran;
        Word(int n, int kind, List<Integer> ran) { this.n = n; this.kind = kind; this.ran = ran; }
        public int n() { return n; }
        public void began(int body) { ran.add(body); }
        public int hears(int x) { began(10); return says(x) * 2; }
        public int holds(int x) { began(11); return x ^ n; }
    }

    private static class Ladder extends Word {
        Ladder(int n, int kind, List<Integer> ran) { super(n, kind, ran); }
        public int says(int x) { began(20); return super.says(x) + 3; }
    }

    private static class Lather extends Word {
        Lather(int n, int kind, List<Integer> ran) { super(n, kind, ran); }
        public int hears(int x) { began(30); return -super.hears(x); }
    }

    private static class Runner extends Lather {
        Runner(int n, int kind, List<Integer> ran) { super(n, kind, ran); }
        public int holds(int x) { began(40); return super.holds(x) * 3; }
        public int hears(int x) { began(41); return super.hears(x + 1); }
    }

    private static class Patrol extends Ladder {
        Patrol(int n, int kind, List<Integer> ran) { super(n, kind, ran); }
        public int tells(int x) { began(50); return super.tells(x) ^ 5; }
    }

    private static class Post extends Runner {
        Post(int n, int kind, List<Integer> ran) { super(n, kind, ran); }
        public int holds(int x) { began(60); return super.holds(x) - says(2); }
        public int tells(int x) { began(61); return super.tells(x) + 1; }
    }

    private static class Stranger extends Word {
        Stranger(int n, int kind, List<Integer> ran) { super(n, kind, ran); }
        public int says(int x) { began(70); return super.says(x) * 2; }
    }

    private static class Marmalade extends Stranger {
        Marmalade(int n, int kind, List<Integer> ran) { super(n, kind, ran); }
        public int hears(int x) { began(80); return super.hears(x) + holds(2); }
        public int says(int x) { began(81); return super.says(x) - 1; }
    }

    private static final Class<?>[] KINDS = {
        Word.class, Ladder.class, Lather.class, Runner.class, Patrol.class, Post.class, Stranger.class, Marmalade.class,
    };

    public int body(int kind) {
        if (kind < 0 || kind > 7) return BAD;
        if (bodies.size() == 50) return FULL;
        int n = bodies.size();
        switch (kind) {
            case 0: bodies.add(new Word(n, kind, ran)); break;
            case 1: bodies.add(new Ladder(n, kind, ran)); break;
            case 2: bodies.add(new Lather(n, kind, ran)); break;
            case 3: bodies.add(new Runner(n, kind, ran)); break;
            case 4: bodies.add(new Patrol(n, kind, ran)); break;
            case 5: bodies.add(new Post(n, kind, ran)); break;
            case 6: bodies.add(new Stranger(n, kind, ran)); break;
            default: bodies.add(new Marmalade(n, kind, ran));
        }
        return n;
    }

    public int act(int body, int act, int x) {
        ran.clear();
        if (body < 0 || body >= bodies.size() || act < 0 || act > 3) return 0;
        Word it = bodies.get(body);
        return act == 0 ? it.says(x) : act == 1 ? it.hears(x) : act == 2 ? it.holds(x) : it.tells(x);
    }

    public int trace(int i) {
        return i < 0 || i >= ran.size() || i > 23 ? BAD : ran.get(i);
    }

    public int keep(int shelf, int body) {
        if (shelf < 0 || shelf > 5 || body < -1 || body >= bodies.size()) return BAD;
        shelves[shelf] = body < 0 ? null : bodies.get(body);
        return 1;
    }

    public int row(int shelf, int sort, int n) {
        if (shelf < 0 || shelf > 5 || sort < 0 || sort > 4 || n > 60) return BAD;
        if (n < 0) return -14;
        switch (sort) {
            case 0: shelves[shelf] = new byte[n]; break;
            case 1: shelves[shelf] = new short[n]; break;
            case 2: shelves[shelf] = new int[n]; break;
            case 3: shelves[shelf] = new long[n]; break;
            default: shelves[shelf] = new boolean[n];
        }
        return 1;
    }

    public int put(int shelf, int i, long v) {
        if (shelf < 0 || shelf > 5) return BAD;
        Object held = shelves[shelf];
        if (held == null) return -11;
        try {
            if (held instanceof byte[]) ((byte[]) held)[i] = (byte) v;
            else if (held instanceof short[]) ((short[]) held)[i] = (short) v;
            else if (held instanceof int[]) ((int[]) held)[i] = (int) v;
            else if (held instanceof long[]) ((long[]) held)[i] = v;
            else if (held instanceof boolean[]) ((boolean[]) held)[i] = v != 0;
            else return -12;
        } catch (ArrayIndexOutOfBoundsException e) {
            return -13;
        }
        return 1;
    }

    public long element(int shelf, int i) {
        if (shelf < 0 || shelf > 5) return NONE;
        Object held = shelves[shelf];
        try {
            if (held instanceof byte[]) return ((byte[]) held)[i];
            if (held instanceof short[]) return ((short[]) held)[i];
            if (held instanceof int[]) return ((int[]) held)[i];
            if (held instanceof long[]) return ((long[]) held)[i];
            if (held instanceof boolean[]) return ((boolean[]) held)[i] ? 1 : 0;
        } catch (ArrayIndexOutOfBoundsException e) {
            return NONE;
        }
        return NONE;
    }

    public int shift(int shelf, int i, int other, int j, int n) {
        if (shelf < 0 || shelf > 5 || other < 0 || other > 5) return BAD;
        try {
            System.arraycopy(shelves[shelf], i, shelves[other], j, n);
        } catch (NullPointerException e) {
            return -11;
        } catch (ArrayStoreException e) {
            return -12;
        } catch (IndexOutOfBoundsException e) {
            return -13;
        }
        return n;
    }

    public int taken(int shelf, int k) {
        if (shelf < 0 || shelf > 5 || k < 0 || k > 7) return BAD;
        if (shelves[shelf] == null) return -11;
        return KINDS[k].isInstance(shelves[shelf]) ? ((Word) shelves[shelf]).kind : -12;
    }

    public int count(int what) {
        switch (what) {
            case 0: return posts.size();
            case 1: return tape.length();
            case 2: return done.size();
            case 3: return bodies.size();
            case 4: return ran.size();
            default: return BAD;
        }
    }
}
