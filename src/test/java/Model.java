import java.math.BigInteger;
import java.util.ArrayList;
import java.util.Arrays;
import java.util.List;
import java.util.TreeMap;
import java.util.function.Predicate;
import java.util.function.ToIntFunction;

/**
 * The document once more, written plainly and slowly with the Java library: whole fractions, lists that are
 * searched anew for each question, sets tried one by one. ModelTest holds BlackSun against it.
 */
final class Model {
    record Star(int x, int y, int bright) {
        int r() {
            return x * x + y * y;
        }
    }

    record Plate(int island, int kind, int heat) { }

    record Image(int number, int plate, int star, int hand, int dx, int dy, int week) { }

    record Said(int way, int week, int number) { }

    record Field(int minutes, int stars) { }

    record WayText(int[] doing, int[] held, int hand, List<Predicate<Image>> leaves) { }

    /** A fit's outcome: thousandths of all six terms, and the sum of squares that is left. */
    record Outcome(int[] numbers, long miss) { }

    private static final int NO = -1000000000;
    private static final int NOT_THERE = -2000000000;

    private static final class State {
        int now;
        List<Star> stars = new ArrayList<>();
        List<Plate> plates = new ArrayList<>();
        List<Image> images = new ArrayList<>();
        List<WayText> ways = new ArrayList<>();
        List<Said> said = new ArrayList<>();
        List<Field> fields = new ArrayList<>();
        int[][] cold = new int[4][6];
        int[][] more = new int[4][6];
        int[] knows = {10000, 10000, 10000, 10000, 10000, 10000, 10000, 10000};

        State copy() {
            State c = new State();
            c.now = now;
            c.stars.addAll(stars);
            c.plates.addAll(plates);
            c.images.addAll(images);
            c.ways.addAll(ways);
            c.said.addAll(said);
            c.fields.addAll(fields);
            for (int i = 0; i < 4; i++) {
                c.cold[i] = cold[i].clone();
                c.more[i] = more[i].clone();
            }
            c.knows = knows.clone();
            return c;
        }
    }

    private State s = new State();
    private final State[] marks = new State[4];
    private final List<Integer> tape = new ArrayList<>();

    // ---- small tests

    private static boolean in(int v, int a, int b) {
        return a <= v && v <= b;
    }

    private static boolean week(int w) {
        return in(w, 0, 9999);
    }

    private boolean hasStar(int k) {
        return in(k, 0, s.stars.size() - 1);
    }

    private boolean hasPlate(int k) {
        return in(k, 0, s.plates.size() - 1);
    }

    private boolean hasWay(int k) {
        return in(k, 0, s.ways.size() - 1);
    }

    // ---- the calls

    boolean clock(int w) {
        if (!week(w) || w < s.now) {
            return false;
        }
        s.now = w;
        return true;
    }

    int star(int x, int y, int b) {
        if (s.stars.size() == 30 || !in(x, -9, 9) || !in(y, -9, 9) || !in(b, 0, 99) || x == 0 && y == 0) {
            return -1;
        }
        s.stars.add(new Star(x, y, b));
        return s.stars.size() - 1;
    }

    int stars(int k, int what) {
        if (!hasStar(k) || !in(what, 0, 3)) {
            return -1000;
        }
        Star t = s.stars.get(k);
        return new int[] {t.x, t.y, t.bright, t.r()}[what];
    }

    int plate(int island, int kind, int heat) {
        if (s.plates.size() == 16 || !in(island, 0, 3) || !in(kind, 0, 2) || !in(heat, 0, 99)) {
            return -1;
        }
        s.plates.add(new Plate(island, kind, heat));
        return s.plates.size() - 1;
    }

    int image(int plate, int star, int hand, int dx, int dy) {
        if (s.images.size() == 100 || !hasPlate(plate) || !hasStar(star) || !in(hand, 0, 7)
                || !in(dx, -299, 299) || !in(dy, -299, 299)) {
            return -1;
        }
        s.images.add(new Image(s.images.size(), plate, star, hand, dx, dy, s.now));
        return s.images.size() - 1;
    }

    int images(int plate, int star, int hand, int known, int what) {
        if (!hasPlate(plate) || !hasStar(star) || !in(hand, 0, 7) || !week(known) || !in(what, 0, 1)) {
            return -1000;
        }
        for (Image i : knownIn(known)) {
            if (i.plate == plate && i.star == star && i.hand == hand) {
                return what == 0 ? i.dx : i.dy;
            }
        }
        return -1000;
    }

    int gives(int term, int star, int axis) {
        if (!in(term, 0, 5) || !hasStar(star) || !in(axis, 0, 1)) {
            return -1000;
        }
        return give(term, s.stars.get(star))[axis];
    }

    int feed(int... numbers) {
        if (tape.size() + 20 > 400) {
            return -1;
        }
        for (int n : numbers) {
            tape.add(n >>> 24);
            tape.add(n >>> 16 & 255);
            tape.add(n >>> 8 & 255);
            tape.add(n & 255);
        }
        return tape.size();
    }

    int end(int n) {
        if (n < 0 || n > tape.size()) {
            return -1;
        }
        while (tape.size() > n) {
            tape.remove(tape.size() - 1);
        }
        return n;
    }

    int way() {
        if (s.ways.size() == 10) {
            return -1;
        }
        StringBuilder text = new StringBuilder();
        for (int b : tape) {
            text.append((char) b);
        }
        tape.clear();
        try {
            s.ways.add(new Text(text.toString()).way());
            return s.ways.size() - 1;
        } catch (Fault f) {
            return -2 - f.number;
        }
    }

    int ways(int way, int term) {
        return hasWay(way) && in(term, 0, 5) ? s.ways.get(way).doing[term] : -1;
    }

    int takes(int way, int known, int k) {
        if (!hasWay(way) || !week(known)) {
            return -1;
        }
        List<Image> taken = taken(s.ways.get(way), known);
        if (k == -1) {
            return taken.size();
        }
        return in(k, 0, taken.size() - 1) ? taken.get(k).number : -1;
    }

    int answer(int way, int term, int known) {
        if (!hasWay(way) || !in(term, 0, 5) || !week(known)) {
            return NOT_THERE;
        }
        Outcome o = fit(s.ways.get(way), known, i -> true);
        return o == null ? NO : o.numbers[term];
    }

    long miss(int way, int known) {
        if (!hasWay(way) || !week(known)) {
            return -1;
        }
        Outcome o = fit(s.ways.get(way), known, i -> true);
        return o == null ? -1 : o.miss;
    }

    int each(int way, int known, int what, int k) {
        if (!hasWay(way) || !week(known) || !in(what, 0, 1) || !(what == 0 ? hasPlate(k) : hasStar(k))) {
            return NOT_THERE;
        }
        return light(fit(s.ways.get(way), known, i -> (what == 0 ? i.plate : i.star) != k));
    }

    int ruled(int way, int term, int known, int number, int what) {
        if (!hasWay(way) || !in(term, 0, 5) || s.ways.get(way).doing[term] != 1 || !week(known)
                || !in(number, -99999, 99999) || !in(what, 0, 1)) {
            return NOT_THERE;
        }
        List<Integer> eight = new ArrayList<>();
        for (int p = 0; p < s.plates.size(); p++) {
            if (s.plates.get(p).kind != 2 && eight.size() < 8) {
                eight.add(p);
            }
        }
        long[] best = null;
        for (int choice = 0; choice < 1 << eight.size(); choice++) {
            int set = 0;
            for (int i = 0; i < eight.size(); i++) {
                set |= (choice >> i & 1) << eight.get(i);
            }
            int out = set;
            Outcome o = fit(s.ways.get(way), known, i -> (out >> i.plate & 1) == 0);
            if (o != null) {
                long[] mine = {Math.abs((long) o.numbers[term] - number), Integer.bitCount(set), set, o.numbers[term]};
                if (best == null || Arrays.compare(mine, best) < 0) {
                    best = mine;
                }
            }
        }
        return best == null ? NO : (int) (what == 0 ? best[2] : best[3]);
    }

    int three(int way, int known, int a, int b, int c) {
        if (!hasWay(way) || !week(known) || !in(a, 0, 99999) || !in(b, 0, 99999) || !in(c, 0, 99999)) {
            return -1;
        }
        int best = -2;
        long least = Long.MAX_VALUE;
        int[] all = {a, b, c};
        for (int k = 0; k < 3; k++) {
            WayText w = s.ways.get(way);
            int[] doing = w.doing.clone();
            int[] held = w.held.clone();
            doing[4] = 2;
            held[4] = all[k];
            Outcome o = fit(new WayText(doing, held, w.hand, w.leaves), known, i -> true);
            if (o != null && o.miss < least) {
                least = o.miss;
                best = k;
            }
        }
        return best;
    }

    long mixed(int plate, int known, int part) {
        if (!hasPlate(plate) || !week(known) || !in(part, 0, 1)) {
            return -1;
        }
        return mix(starsOn(plate, known))[part].longValueExact();
    }

    int parter(int plate, int known) {
        if (!hasPlate(plate) || !week(known)) {
            return -1;
        }
        int best = -1;
        BigInteger[] least = null;
        for (int t = 0; t < s.stars.size(); t++) {
            List<Integer> on = starsOn(plate, known);
            if (!on.contains(t)) {
                on.add(t);
                BigInteger[] m = mix(on);
                if (least == null || m[0].multiply(least[1]).compareTo(least[0].multiply(m[1])) < 0) {
                    least = m;
                    best = t;
                }
            }
        }
        return best;
    }

    int usable(int plate, int known, int off) {
        if (!hasPlate(plate) || s.plates.get(plate).kind != 0 || !week(known) || !in(off, 0, 99)) {
            return -1;
        }
        Plate mine = s.plates.get(plate);
        for (Image i : knownIn(known)) {
            Plate p = s.plates.get(i.plate);
            if (p.kind == 2 && p.island == mine.island && Math.abs(p.heat - mine.heat) <= off) {
                return 1;
            }
        }
        return 0;
    }

    boolean tell(int hand, int w) {
        if (!in(hand, 0, 7) || !in(w, 0, s.now)) {
            return false;
        }
        s.knows[hand] = Math.min(s.knows[hand], w);
        return true;
    }

    int knows(int hand, int w) {
        return !in(hand, 0, 7) || !week(w) ? -1 : s.knows[hand] <= w ? 1 : 0;
    }

    long leans(int hand, int w, int what, int part) {
        if (!in(hand, 0, 7) || !week(w) || !in(what, 0, 1) || !in(part, 0, 1)) {
            return -1000000000000L;
        }
        BigInteger[] all = {BigInteger.ZERO, BigInteger.ONE};
        int places = 0;
        for (Image mine : knownIn(w)) {
            long sum = 0;
            int others = 0;
            for (Image i : knownIn(w)) {
                if (mine.hand == hand && i.hand != hand && i.plate == mine.plate && i.star == mine.star
                        && s.knows[i.hand] > w) {
                    sum += outwards(i, what);
                    others++;
                }
            }
            if (others > 0) {
                places++;
                BigInteger n = BigInteger.valueOf(outwards(mine, what) * others - sum);
                BigInteger d = BigInteger.valueOf(others);
                all = lowest(all[0].multiply(d).add(n.multiply(all[1])), all[1].multiply(d));
            }
        }
        if (places > 0) {
            all = lowest(all[0], all[1].multiply(BigInteger.valueOf(places)));
        }
        return all[part].longValueExact();
    }

    int joined(int way, int known, int a, int b) {
        if (!hasWay(way) || !week(known) || !in(a, 0, 3) || !in(b, 0, 3) || a == b) {
            return NOT_THERE;
        }
        WayText w = s.ways.get(way);
        Outcome oa = fit(w, known, i -> s.plates.get(i.plate).island == a);
        Outcome ob = fit(w, known, i -> s.plates.get(i.plate).island == b);
        if (oa == null || ob == null) {
            return NO;
        }
        long na = taken(w, known).stream().filter(i -> s.plates.get(i.plate).island == a).count();
        long nb = taken(w, known).stream().filter(i -> s.plates.get(i.plate).island == b).count();
        return (int) Math.floorDiv(oa.numbers[4] * na + ob.numbers[4] * nb, na + nb);
    }

    int quarrel(int way, int known, int a, int b, int off) {
        if (!hasWay(way) || !week(known) || !in(a, 0, 3) || !in(b, 0, 3) || a == b || !in(off, 0, 99999)) {
            return -1;
        }
        Outcome oa = fit(s.ways.get(way), known, i -> s.plates.get(i.plate).island == a);
        Outcome ob = fit(s.ways.get(way), known, i -> s.plates.get(i.plate).island == b);
        return oa != null && ob != null && Math.abs((long) oa.numbers[4] - ob.numbers[4]) > off ? 1 : 0;
    }

    int say(int way, int number) {
        if (!hasWay(way) || !in(number, -99999, 99999) || s.said.size() == 40) {
            return -1;
        }
        s.said.add(new Said(way, s.now, number));
        return s.said.size() - 1;
    }

    int could(int said, int off, boolean later) {
        if (!in(said, 0, s.said.size() - 1) || !in(off, 0, 99999)) {
            return -1;
        }
        Said it = s.said.get(said);
        Outcome o = fit(s.ways.get(it.way), later ? s.now : it.week, i -> true);
        return o != null && Math.abs((long) o.numbers[4] - it.number) <= off ? 1 : 0;
    }

    int field(int minutes, int stars) {
        if (!in(minutes, 1, 99) || s.fields.size() == 9) {
            return -1;
        }
        for (int b = 0; b < 32; b++) {
            if ((stars >> b & 1) != 0 && !hasStar(b)) {
                return -1;
            }
        }
        s.fields.add(new Field(minutes, stars));
        return s.fields.size() - 1;
    }

    int planned(int minutes, int what) {
        if (!in(minutes, 1, 999) || !in(what, 0, 2)) {
            return -1;
        }
        int[] best = null;
        for (int set = 0; set < 1 << s.fields.size(); set++) {
            int needed = 0;
            int union = 0;
            for (int f = 0; f < s.fields.size(); f++) {
                if ((set >> f & 1) != 0) {
                    needed += s.fields.get(f).minutes;
                    union |= s.fields.get(f).stars;
                }
            }
            int worth = 0;
            for (int t = 0; t < s.stars.size(); t++) {
                if ((union >> t & 1) != 0) {
                    int[] l = give(4, s.stars.get(t));
                    worth += l[0] * l[0] + l[1] * l[1];
                }
            }
            int[] mine = {-worth, needed, set};
            if (needed <= minutes && (best == null || Arrays.compare(mine, best) < 0)) {
                best = mine;
            }
        }
        return what == 0 ? best[2] : what == 1 ? -best[0] : best[1];
    }

    int right(int way, int seed, int law, int slip, int n, int off) {
        if (!hasWay(way) || seed < 0 || !in(law, 0, 9999) || !in(slip, 0, 99) || !in(n, 1, 50) || !in(off, 0, 99999)) {
            return -1;
        }
        WayText w = s.ways.get(way);
        long x0 = seed;
        int right = 0;
        for (int world = 0; world < n; world++) {
            List<Image> drawn = new ArrayList<>();
            for (Image i : taken(w, s.now)) {
                int[] l = s.plates.get(i.plate).kind == 1 ? new int[2] : give(4, s.stars.get(i.star));
                int[] d = new int[2];
                for (int axis = 0; axis < 2; axis++) {
                    x0 = BigInteger.valueOf(x0).multiply(BigInteger.valueOf(1103515245)).add(BigInteger.valueOf(12345))
                            .mod(BigInteger.valueOf(2147483648L)).longValueExact();
                    d[axis] = law * l[axis] / 1000 + (int) (x0 / 65536 % (2 * slip + 1)) - slip;
                }
                drawn.add(new Image(i.number, i.plate, i.star, i.hand, d[0], d[1], i.week));
            }
            Outcome o = fitTaken(w, s.now, drawn);
            if (o != null && Math.abs((long) o.numbers[4] - law) <= off) {
                right++;
            }
        }
        return right;
    }

    int span(int way, int known, int what) {
        if (!hasWay(way) || !week(known) || !in(what, 0, 1)) {
            return NOT_THERE;
        }
        List<Integer> all = new ArrayList<>();
        WayText w = s.ways.get(way);
        all.add(light(fit(w, known, i -> true)));
        for (int p = 0; p < 16; p++) {
            int out = p;
            all.add(light(fit(w, known, i -> i.plate != out)));
        }
        for (int t = 0; t < 30; t++) {
            int out = t;
            all.add(light(fit(w, known, i -> i.star != out)));
        }
        all.removeIf(a -> a == NO);
        if (all.isEmpty()) {
            return NO;
        }
        all.sort(null);
        return what == 0 ? all.get(0) : all.get(all.size() - 1);
    }

    int named(int known, int a, int b, int c, int k) {
        if (!week(known) || !in(a, 0, 99999) || !in(b, 0, 99999) || !in(c, 0, 99999) || !in(k, 0, 3)) {
            return -1;
        }
        int n = 0;
        for (int w = 0; w < s.ways.size(); w++) {
            int t = three(w, known, a, b, c);
            if (t == k || t == -2 && k == 3) {
                n++;
            }
        }
        return n;
    }

    boolean glass(int island, int term, int cold, int more) {
        if (!in(island, 0, 3) || !in(term, 0, 5) || term == 4 || !in(cold, -9999, 9999) || !in(more, -99, 99)) {
            return false;
        }
        s.cold[island][term] = cold;
        s.more[island][term] = more;
        return true;
    }

    int stands(int plate, int star, int light, int axis) {
        if (!hasPlate(plate) || !hasStar(star) || !in(light, 0, 99999) || !in(axis, 0, 1)) {
            return -1000000;
        }
        return standing(plate, star, light, s.plates.get(plate).heat)[axis];
    }

    long off(int plate, int known, int light) {
        if (!hasPlate(plate) || !week(known) || !in(light, 0, 99999)) {
            return -1;
        }
        return offAt(plate, known, light, s.plates.get(plate).heat);
    }

    int heat(int plate, int known, int light) {
        if (!hasPlate(plate) || !week(known) || !in(light, 0, 99999) || starsOn(plate, known).isEmpty()) {
            return -1;
        }
        int best = 99;
        for (int h = 99; h >= 0; h--) {
            if (offAt(plate, known, light, h) <= offAt(plate, known, light, best)) {
                best = h;
            }
        }
        return best;
    }

    int again(int a, int b, int w, int what) {
        if (!in(a, 0, 7) || !in(b, 0, 7) || a == b || !week(w) || !in(what, 0, 5)) {
            return -1000000;
        }
        int[] told = {0, 0, 0, 0, -1, -1};
        for (int p = 0; p < s.plates.size(); p++) {
            for (int t = 0; t < s.stars.size(); t++) {
                if (images(p, t, a, w, 0) != -1000 && images(p, t, b, w, 0) != -1000) {
                    int dx = images(p, t, b, w, 0) - images(p, t, a, w, 0);
                    int dy = images(p, t, b, w, 1) - images(p, t, a, w, 1);
                    told[0]++;
                    told[1] += dx;
                    told[2] += dy;
                    if (told[4] == -1 || dx * dx + dy * dy > told[3]) {
                        told[3] = dx * dx + dy * dy;
                        told[4] = p;
                        told[5] = t;
                    }
                }
            }
        }
        return told[what];
    }

    int mark(int k) {
        if (!in(k, 0, 3)) {
            return -1;
        }
        marks[k] = s.copy();
        return s.now;
    }

    int back(int k) {
        if (!in(k, 0, 3) || marks[k] == null) {
            return -1;
        }
        s = marks[k].copy();
        return s.now;
    }

    int count(int what) {
        if (!in(what, 0, 7)) {
            return -1;
        }
        return new int[] {s.now, s.stars.size(), s.plates.size(), s.images.size(), s.ways.size(), s.said.size(),
            s.fields.size(), tape.size()}[what];
    }

    // ---- what the calls are made of

    private static int[] give(int term, Star t) {
        return switch (term) {
            case 0 -> new int[] {1, 0};
            case 1 -> new int[] {0, 1};
            case 2 -> new int[] {t.x, t.y};
            case 3 -> new int[] {-t.y, t.x};
            case 4 -> new int[] {40 * t.x / t.r(), 40 * t.y / t.r()};
            default -> new int[] {t.x * t.y, 0};
        };
    }

    private List<Image> knownIn(int known) {
        TreeMap<Integer, Image> latest = new TreeMap<>();
        for (Image i : s.images) {
            if (i.week <= known) {
                latest.put((i.plate * 30 + i.star) * 8 + i.hand, i);
            }
        }
        List<Image> all = new ArrayList<>(latest.values());
        all.sort((i, j) -> i.number - j.number);
        return all;
    }

    private List<Image> taken(WayText w, int known) {
        List<Image> all = knownIn(known);
        all.removeIf(i -> s.plates.get(i.plate).kind == 2);
        all.removeIf(i -> w.hand != -1 && i.hand != w.hand);
        for (Predicate<Image> leave : w.leaves) {
            all.removeIf(leave);
        }
        return all;
    }

    private static int light(Outcome o) {
        return o == null ? NO : o.numbers[4];
    }

    private Outcome fit(WayText w, int known, Predicate<Image> stays) {
        List<Image> all = taken(w, known);
        all.removeIf(stays.negate());
        return fitTaken(w, known, all);
    }

    private int[] giveImage(int term, Image i) {
        return term == 4 && s.plates.get(i.plate).kind == 1 ? new int[2] : give(term, s.stars.get(i.star));
    }

    private Outcome fitTaken(WayText w, int known, List<Image> all) {
        int[] numbers = new int[6];
        List<Integer> fitted = new ArrayList<>();
        for (int term = 0; term < 6; term++) {
            if (w.doing[term] == 1) {
                fitted.add(term);
            } else if (w.doing[term] == 2) {
                numbers[term] = w.held[term];
            } else if (w.doing[term] == 3) {
                List<int[]> rows = new ArrayList<>();
                for (Image i : knownIn(known)) {
                    if (s.plates.get(i.plate).kind == 2 && (w.hand == -1 || w.hand == i.hand)) {
                        int[] g = give(term, s.stars.get(i.star));
                        rows.add(new int[] {g[0], i.dx});
                        rows.add(new int[] {g[1], i.dy});
                    }
                }
                int[] checked = solve(rows, 1);
                if (checked == null) {
                    return null;
                }
                numbers[term] = checked[0];
            }
        }
        if (all.isEmpty()) {
            return null;
        }
        List<int[]> rows = new ArrayList<>();
        for (Image i : all) {
            int sign = s.plates.get(i.plate).kind == 1 ? -1 : 1;
            for (int axis = 0; axis < 2; axis++) {
                int[] row = new int[fitted.size() + 1];
                int d = sign * (axis == 0 ? i.dx : i.dy);
                for (int term = 0; term < 6; term++) {
                    d -= numbers[term] * giveImage(term, i)[axis] / 1000;
                }
                for (int f = 0; f < fitted.size(); f++) {
                    row[f] = giveImage(fitted.get(f), i)[axis];
                }
                row[fitted.size()] = d;
                rows.add(row);
            }
        }
        int[] answers = solve(rows, fitted.size());
        if (answers == null) {
            return null;
        }
        long miss = 0;
        for (int[] row : rows) {
            long all1000 = 0;
            for (int f = 0; f < answers.length; f++) {
                all1000 += (long) answers[f] * row[f];
            }
            long left = row[answers.length] - all1000 / 1000;
            miss += left * left;
        }
        for (int f = 0; f < answers.length; f++) {
            numbers[fitted.get(f)] = answers[f];
        }
        return new Outcome(numbers, miss);
    }

    /** Least squares by Gauss's steps over whole fractions; null, if there is no answer. */
    private static int[] solve(List<int[]> rows, int n) {
        BigInteger[][][] m = new BigInteger[n][n + 1][];
        for (int i = 0; i < n; i++) {
            for (int j = 0; j <= n; j++) {
                BigInteger sum = BigInteger.ZERO;
                for (int[] row : rows) {
                    sum = sum.add(BigInteger.valueOf((long) row[i] * row[j]));
                }
                m[i][j] = new BigInteger[] {sum, BigInteger.ONE};
            }
        }
        for (int i = 0; i < n; i++) {
            int pivot = i;
            while (pivot < n && m[pivot][i][0].signum() == 0) {
                pivot++;
            }
            if (pivot == n) {
                return null;
            }
            BigInteger[][] swap = m[i];
            m[i] = m[pivot];
            m[pivot] = swap;
            for (int k = 0; k < n; k++) {
                if (k != i) {
                    BigInteger[] times = lowest(m[k][i][0].multiply(m[i][i][1]), m[k][i][1].multiply(m[i][i][0]));
                    for (int j = 0; j <= n; j++) {
                        BigInteger[] less = {times[0].multiply(m[i][j][0]), times[1].multiply(m[i][j][1])};
                        m[k][j] = lowest(m[k][j][0].multiply(less[1]).subtract(less[0].multiply(m[k][j][1])),
                                m[k][j][1].multiply(less[1]));
                    }
                }
            }
        }
        int[] answers = new int[n];
        for (int i = 0; i < n; i++) {
            BigInteger[] x = lowest(m[i][n][0].multiply(m[i][i][1]).multiply(BigInteger.valueOf(1000)),
                    m[i][n][1].multiply(m[i][i][0]));
            BigInteger[] parts = x[0].divideAndRemainder(x[1]);
            BigInteger floor = parts[1].signum() < 0 ? parts[0].subtract(BigInteger.ONE) : parts[0];
            if (floor.abs().compareTo(BigInteger.valueOf(99999999)) > 0) {
                return null;
            }
            answers[i] = floor.intValueExact();
        }
        return answers;
    }

    private static BigInteger[] lowest(BigInteger above, BigInteger below) {
        BigInteger g = above.gcd(below);
        if (below.signum() < 0) {
            g = g.negate();
        }
        return new BigInteger[] {above.divide(g), below.divide(g)};
    }

    private List<Integer> starsOn(int plate, int known) {
        List<Integer> on = new ArrayList<>();
        for (Image i : knownIn(known)) {
            if (i.plate == plate && !on.contains(i.star)) {
                on.add(i.star);
            }
        }
        return on;
    }

    private BigInteger[] mix(List<Integer> on) {
        long ss = 0;
        long sl = 0;
        long ll = 0;
        for (int t : on) {
            for (int axis = 0; axis < 2; axis++) {
                int scale = give(2, s.stars.get(t))[axis];
                int light = give(4, s.stars.get(t))[axis];
                ss += scale * scale;
                sl += scale * light;
                ll += light * light;
            }
        }
        if (ss == 0 || sl == 0 || ll == 0) {
            return new BigInteger[] {BigInteger.ZERO, BigInteger.ONE};
        }
        return lowest(BigInteger.valueOf(sl).pow(2), BigInteger.valueOf(ss).multiply(BigInteger.valueOf(ll)));
    }

    private long outwards(Image i, int what) {
        Star t = s.stars.get(i.star);
        return what == 0 ? i.dx : t.x * i.dx + t.y * i.dy;
    }

    private int[] standing(int plate, int star, int light, int heat) {
        Plate p = s.plates.get(plate);
        int[] at = new int[2];
        for (int term = 0; term < 6; term++) {
            int amount = s.cold[p.island][term] + heat * s.more[p.island][term];
            if (term == 4) {
                amount = p.kind == 1 ? 0 : light;
            }
            int[] g = give(term, s.stars.get(star));
            at[0] += amount * g[0] / 1000;
            at[1] += amount * g[1] / 1000;
        }
        return at;
    }

    private long offAt(int plate, int known, int light, int heat) {
        long sum = 0;
        for (Image i : knownIn(known)) {
            if (i.plate == plate) {
                int[] at = standing(plate, i.star, light, heat);
                sum += (long) (i.dx - at[0]) * (i.dx - at[0]) + (long) (i.dy - at[1]) * (i.dy - at[1]);
            }
        }
        return sum;
    }

    // ---- the language

    private static final class Fault extends RuntimeException {
        private static final long serialVersionUID = 1L;
        final int number;

        Fault(int place, int why) {
            number = 1 + 8 * place + why;
        }
    }

    /** Reads by descent, and throws at the first fault. */
    private final class Text {
        private static final List<String> TERMS = List.of("east", "north", "scale", "turn", "light", "bend");
        private final String text;
        private int at;
        private int counted;
        private int fitted;
        private final int[] doing = new int[6];
        private final int[] held = new int[6];
        private int hand = -1;
        private final List<Predicate<Image>> leaves = new ArrayList<>();

        Text(String text) {
            this.text = text;
        }

        WayText way() {
            clause(1);
            int n = 1;
            while (true) {
                char c = look();
                if (at == text.length()) {
                    return new WayText(doing, held, hand, leaves);
                }
                if (c != ';') {
                    throw new Fault(at, 0);
                }
                at++;
                n++;
                clause(n);
            }
        }

        private char look() {
            while (at < text.length() && text.charAt(at) == ' ') {
                at++;
            }
            return at < text.length() ? text.charAt(at) : (char) 1000;
        }

        private String word() {
            look();
            int end = at;
            while (end < text.length() && text.charAt(end) >= 'a' && text.charAt(end) <= 'z') {
                end++;
            }
            return text.substring(at, end);
        }

        private int number(int most) {
            int end = at;
            while (end < text.length() && text.charAt(end) >= '0' && text.charAt(end) <= '9') {
                end++;
            }
            if (end == at) {
                throw new Fault(at, 0);
            }
            if (end - at > 5 || Integer.parseInt(text.substring(at, end)) > most) {
                throw new Fault(at, 1);
            }
            int value = Integer.parseInt(text.substring(at, end));
            at = end;
            return value;
        }

        private void clause(int n) {
            String w = word();
            if (!List.of("fit", "hold", "check", "leave", "hand").contains(w)) {
                throw new Fault(at, 0);
            }
            if (n == 13) {
                throw new Fault(at, 4);
            }
            if (w.equals("hand")) {
                if (hand != -1) {
                    throw new Fault(at, 5);
                }
                at += 4;
                look();
                hand = number(7);
            } else if (w.equals("leave")) {
                at += 5;
                if (!word().equals("if")) {
                    throw new Fault(at, 0);
                }
                at += 2;
                leaves.add(test(0));
            } else {
                at += w.length();
                term(w);
            }
        }

        private void term(String how) {
            String name = word();
            int term = TERMS.indexOf(name);
            if (term < 0) {
                throw new Fault(at, 0);
            }
            if (doing[term] != 0 || how.equals("fit") && ++fitted > 3) {
                throw new Fault(at, 5);
            }
            at += name.length();
            doing[term] = how.equals("fit") ? 1 : how.equals("hold") ? 2 : 3;
            if (how.equals("hold")) {
                boolean minus = look() == '-';
                if (minus) {
                    at++;
                }
                held[term] = (minus ? -1 : 1) * number(99999);
            }
        }

        private Predicate<Image> test(int depth) {
            Predicate<Image> all = part(depth);
            while (word().equals("or")) {
                at += 2;
                all = all.or(part(depth));
            }
            return all;
        }

        private Predicate<Image> part(int depth) {
            Predicate<Image> all = fact(depth);
            while (word().equals("and")) {
                at += 3;
                all = all.and(fact(depth));
            }
            return all;
        }

        private Predicate<Image> fact(int depth) {
            char c = look();
            boolean not = word().equals("not");
            if ((c == '[' || not) && depth == 10) {
                throw new Fault(at, 2);
            }
            if (not) {
                at += 3;
                return fact(depth + 1).negate();
            }
            if (c == '[') {
                at++;
                Predicate<Image> inside = test(depth + 1);
                if (look() != ']') {
                    throw new Fault(at, 0);
                }
                at++;
                return inside;
            }
            ToIntFunction<Image> left = sum();
            look();
            for (String sign : List.of("<=", ">=", "<", ">", "=")) {
                if (text.startsWith(sign, at)) {
                    counted(at);
                    at += sign.length();
                    ToIntFunction<Image> right = sum();
                    return i -> holds(Integer.compare(left.applyAsInt(i), right.applyAsInt(i)), sign);
                }
            }
            throw new Fault(at, 0);
        }

        private static boolean holds(int compared, String sign) {
            return compared == 0 ? sign.contains("=") : sign.charAt(0) == (compared < 0 ? '<' : '>');
        }

        private void counted(int place) {
            if (++counted > 60) {
                throw new Fault(place, 3);
            }
        }

        private ToIntFunction<Image> sum() {
            ToIntFunction<Image> all = value();
            while (look() == '+' || look() == '-') {
                int sign = text.charAt(at) == '+' ? 1 : -1;
                at++;
                ToIntFunction<Image> before = all;
                ToIntFunction<Image> more = value();
                all = i -> before.applyAsInt(i) + sign * more.applyAsInt(i);
            }
            return all;
        }

        private ToIntFunction<Image> value() {
            char c = look();
            int start = at;
            ToIntFunction<Image> value;
            if (c >= '0' && c <= '9') {
                int n = number(99999);
                value = i -> n;
            } else {
                String w = word();
                value = fact(w);
                if (value == null) {
                    throw new Fault(at, 0);
                }
                at += w.length();
            }
            counted(start);
            return value;
        }

        private ToIntFunction<Image> fact(String w) {
            return switch (w) {
                case "plate" -> i -> i.plate;
                case "island" -> i -> s.plates.get(i.plate).island;
                case "kind" -> i -> s.plates.get(i.plate).kind;
                case "heat" -> i -> s.plates.get(i.plate).heat;
                case "star" -> i -> i.star;
                case "bright" -> i -> s.stars.get(i.star).bright;
                case "far" -> i -> s.stars.get(i.star).r();
                case "x" -> i -> s.stars.get(i.star).x;
                case "y" -> i -> s.stars.get(i.star).y;
                case "dx" -> i -> i.dx;
                case "dy" -> i -> i.dy;
                case "week" -> i -> i.week;
                case "hand" -> i -> i.hand;
                default -> null;
            };
        }
    }
}
