import java.math.BigInteger;
import java.util.ArrayDeque;
import java.util.ArrayList;
import java.util.Arrays;
import java.util.Deque;
import java.util.List;
import java.util.Random;
import java.util.regex.Matcher;
import java.util.regex.Pattern;

/**
 * Runs of up to 512 calls, the same ones on the class and on a second writing of the document that
 * only goes by the words (every book is tried, every grain is laid by itself), wild numbers among them.
 */
public final class ModelTest {
    private static final int BAD = -1, NO = -2, FULL = -3, NONE = -4;
    private static int wrong = 0;

    /** The document, word by word. */
    private static final class Model {
        StringBuilder text = new StringBuilder();
        Laid laid = Laid.of("g100,0,0,0;f0,0,1,0;");
        Found found = new Found();
        Deque<Found> kept = new ArrayDeque<>();

        long call(String name, long[] a) {
            int[] i = new int[a.length];
            for (int k = 0; k < a.length; k++) {
                i[k] = (int) a[k];
            }
            switch (name) {
                case "write": return write(i[0], a[1]);
                case "wipe": { int n = text.length(); text.setLength(0); return n; }
                case "fault": return Laid.of(text.toString()).fault;
                case "lay": return lay();
                case "face": return face(i[0], i[1]);
                case "lies": return lies(i[0], i[1], i[2]);
                case "read": return read(i[0], i[1], i[2]);
                case "more": return more(i[0], i[1], i[2], i[3], i[4]);
                case "says": return says(i[0], i[1], i[2]);
                case "controls": return controls(i[0], i[1], i[2]);
                case "heap": return heap(i[0], Arrays.copyOfRange(i, 1, 5), i[5]);
                case "most": return most(i);
                case "shares": return shares(i[0], i[1], Arrays.copyOfRange(i, 2, 6));
                case "kin": return kin(i[0], i[1]);
                case "cooked": return cooked(i[0], i[1], i[2]);
                case "count": return count(i[0], i[1], i[2]);
                case "books": return books(i[0], i[1], i[2], i[3] != 0);
                case "ground": return ground(i[0], i[1], i[2], i[3] != 0);
                case "sure": return sure(i[0], i[1]);
                case "leave": return leave(i[0], i[1]);
                case "blind": return blind(i[0], i[1]);
                case "slips": return slips(i[0], i[1], i[2]);
                case "lean": return lean(i[0]);
                case "right": return right(i[0], i[1]);
                case "teeth": return teeth(i[0]);
                case "eaten": return sure(i[0], i[1]) == BAD ? BAD : sure(i[0], i[1]) & found.teeth;
                case "next": return next();
                case "keep": return keep();
                case "back": return back();
                case "size": return size(i[0]);
                default: throw new IllegalStateException(name);
            }
        }

        boolean sort(int s) { return s >= 0 && s < laid.g.size(); }

        boolean patch(int f) { return f >= 0 && f < laid.f.size(); }

        static boolean in(long v, long a, long b) { return a <= v && v <= b; }

        long write(int n, long v) {
            if (!in(n, 1, 8)) return BAD;
            if (text.length() + n > 500) return FULL;
            byte[] all = java.nio.ByteBuffer.allocate(8).putLong(v).array();
            for (int k = 8 - n; k < 8; k++) text.append((char) (all[k] & 255));
            return text.length();
        }

        long lay() {
            Laid l = Laid.of(text.toString());
            if (l.fault != NONE || l.g.isEmpty() || l.f.isEmpty()) return NO;
            laid = l;
            found = new Found();
            kept.clear();
            return l.f.size();
        }

        long face(int f, int what) {
            if (!patch(f) || !in(what, 0, 4)) return BAD;
            return what == 4 ? (found.read[f] ? 1 : 0) : laid.f.get(f)[what];
        }

        /** One number for each grain that lies: its sort times 5 and its origin. */
        List<Integer> grainsOn(int f) {
            List<List<Integer>> heaps = new ArrayList<>();
            for (int k = 0; k < 30; k++) heaps.add(new ArrayList<>());
            for (int s = 0; s < 6; s++) for (int n = 0; n < laid.u[f][s]; n++) heaps.get(5 * s + 4).add(5 * s + 4);
            for (int step = 0; step < 4; step++) {
                if ((laid.f.get(f)[3] & (1 << step)) == 0) continue;
                for (List<Integer> heap : heaps) {
                    int off = (int) Math.floor(heap.size() * laid.w[step] / 100.0 + 1e-9);
                    for (int n = 0; n < off; n++) heap.remove(heap.size() - 1);
                }
                for (int s = 0; s < 6; s++)
                    for (int n = 0; n < laid.b[step][s] * laid.f.get(f)[2]; n++) heaps.get(5 * s + step).add(5 * s + step);
            }
            List<Integer> all = new ArrayList<>();
            for (List<Integer> heap : heaps) all.addAll(heap);
            return all;
        }

        long lies(int f, int s, int origin) {
            if (!patch(f) || !sort(s) || !in(origin, -1, 4)) return BAD;
            return grainsOn(f).stream().filter(x -> x / 5 == s && (origin == -1 || x % 5 == origin)).count();
        }

        long read(int f, int z, int s) {
            if (!patch(f) || !sort(s) || !in(z, 0, 9999)) return BAD;
            int n = 0;
            List<Integer> all = grainsOn(f);
            for (int t = 0; t < all.size(); t++) {
                BigInteger x = BigInteger.valueOf(7919L * z + 6151L * t + 3571L * f + 1);
                int r = x.multiply(x).mod(BigInteger.valueOf(65521)).intValue() % 100;
                int was = all.get(t) / 5;
                int called = was;
                for (int c = 5; c >= 0; c--) {
                    int together = 0;
                    for (int d = 0; d <= c; d++) together += laid.x[was][d];
                    if (r < together) called = c;
                }
                if (called == s) n++;
            }
            return n;
        }

        static BigInteger big(long v) { return BigInteger.valueOf(v); }

        static long term(BigInteger above, BigInteger below, int part) {
            BigInteger g = above.gcd(below);
            return (part == 0 ? above : below).divide(g).longValueExact();
        }

        long more(int a, int areaA, int b, int areaB, int part) {
            if (a < 0 || b < 0 || (long) a + b > 12 || !in(areaA, 1, 9) || !in(areaB, 1, 9) || !in(part, 0, 1)) return BAD;
            BigInteger above = BigInteger.ZERO;
            for (int falls = 0; falls < 1 << (a + b); falls++) {
                int on = Integer.bitCount(falls);
                if (on >= a) above = above.add(big(areaA).pow(on).multiply(big(areaB).pow(a + b - on)));
            }
            return term(above, big(areaA + areaB).pow(a + b), part);
        }

        static boolean rare(int a, int areaA, int areaB, int q) {
            return big(areaA).pow(a).multiply(big(q)).compareTo(big(areaA + areaB).pow(a)) <= 0;
        }

        long says(int areaA, int areaB, int q) {
            if (!in(areaA, 1, 9) || !in(areaB, 1, 9) || !in(q, 1, 1000)) return BAD;
            for (int a = 0; a <= 12; a++) if (rare(a, areaA, areaB, q)) return a;
            return NONE;
        }

        long controls(int a, int areaA, int q) {
            if (!in(areaA, 1, 9) || !in(a, 1, 9) || !in(q, 1, 1000)) return BAD;
            for (int b = 1; b <= 99; b++) if (rare(a, areaA, b, q)) return b;
            return NONE;
        }

        static boolean heapBad(int[] h, int most) {
            long sum = 0;
            for (int n : h) {
                if (n < 0) return true;
                sum += n;
            }
            return sum > most;
        }

        BigInteger product(int s, int[] h) {
            BigInteger p = BigInteger.ONE;
            for (int w = 0; w < 4; w++) p = p.multiply(big(laid.g.get(s)[w]).pow(h[w]));
            return p;
        }

        long heap(int s, int[] h, int part) {
            if (!sort(s) || heapBad(h, 8) || !in(part, 0, 1)) return BAD;
            BigInteger sum = BigInteger.ZERO;
            for (int k = 0; k < laid.g.size(); k++) sum = sum.add(product(k, h));
            return sum.signum() == 0 ? NONE : term(product(s, h), sum, part);
        }

        long most(int[] h) {
            if (heapBad(h, 8)) return BAD;
            int best = NONE;
            for (int s = laid.g.size() - 1; s >= 0; s--)
                if (product(s, h).signum() > 0 && (best == NONE || product(s, h).compareTo(product(best, h)) >= 0)) best = s;
            return best;
        }

        long shares(int p, int q, int[] h) {
            if (!sort(p) || !sort(q) || p == q || heapBad(h, 6)) return BAD;
            BigInteger best = null;
            int at = 0;
            for (int t = 10; t >= 0; t--) {
                BigInteger v = BigInteger.ONE;
                for (int w = 0; w < 4; w++)
                    for (int n = 0; n < h[w]; n++) v = v.multiply(big(t * laid.g.get(p)[w] + (10 - t) * laid.g.get(q)[w]));
                if (best == null || v.compareTo(best) >= 0) {
                    best = v;
                    at = t;
                }
            }
            return at;
        }

        static int apart(int[] a, int[] b) {
            int d = 0;
            for (int w = 0; w < 4; w++) d += Math.abs(a[w] - b[w]);
            return d;
        }

        long kin(int d, int s) {
            if (!in(d, 0, 200) || s != -1 && !sort(s)) return BAD;
            int n = laid.g.size();
            int[] name = new int[n];
            for (int k = 0; k < n; k++) name[k] = k;
            for (int round = 0; round < n; round++)
                for (int a = 0; a < n; a++)
                    for (int b = 0; b < n; b++)
                        if (apart(laid.g.get(a), laid.g.get(b)) <= d) name[a] = name[b] = Math.min(name[a], name[b]);
            return s == -1 ? Arrays.stream(name).distinct().count() : name[s];
        }

        long cooked(int s, int c, int wave) {
            if (!sort(s) || !in(c, 0, 100) || !in(wave, 0, 4)) return BAD;
            int[] was = laid.g.get(s);
            int[] is = was.clone();
            for (int w = 0; w < 3; w++) {
                is[w] -= was[w] * c / 100;
                is[w + 1] += was[w] * c / 100;
            }
            if (wave < 4) return is[wave];
            int best = 0;
            for (int k = 0; k < laid.g.size(); k++) if (apart(is, laid.g.get(k)) < apart(is, laid.g.get(best))) best = k;
            return best;
        }

        long count(int f, int s, int v) {
            if (!patch(f) || !sort(s) || !in(v, 0, 99)) return BAD;
            int was = found.count[f][s];
            found.count[f][s] = v;
            found.read[f] = true;
            return was;
        }

        static int sum(int[] row, int steps) {
            int sum = 0;
            for (int k = 0; k < 4; k++) if ((steps & (1 << k)) != 0) sum += row[k];
            return sum;
        }

        List<int[]> fitting(int s, int e) {
            List<int[]> rows = new ArrayList<>();
            for (int k = 0; k < 10000; k++) {
                int[] row = {k % 10, k / 10 % 10, k / 100 % 10, k / 1000};
                boolean fits = true;
                for (int f = 0; f < laid.f.size() && fits; f++) {
                    int[] p = laid.f.get(f);
                    if (p[1] == 3 && found.read[f]) fits = Math.abs(found.count[f][s] - sum(row, p[3]) * p[2]) <= e;
                }
                if (fits) rows.add(row);
            }
            return rows;
        }

        long books(int s, int e, int step, boolean most) {
            if (!sort(s) || !in(e, 0, 99) || !in(step, -1, 3)) return BAD;
            List<int[]> rows = fitting(s, e);
            if (step == -1) return rows.size();
            if (rows.isEmpty()) return NONE;
            int found = rows.get(0)[step];
            for (int[] row : rows) found = most ? Math.max(found, row[step]) : Math.min(found, row[step]);
            return found;
        }

        long ground(int f, int s, int e, boolean most) {
            if (!patch(f) || !sort(s) || !in(e, 0, 99)) return BAD;
            int best = NONE;
            for (int[] row : fitting(s, e)) {
                int v = Math.max(0, found.count[f][s] - sum(row, laid.f.get(f)[3]) * laid.f.get(f)[2]);
                best = best == NONE ? v : most ? Math.max(best, v) : Math.min(best, v);
            }
            return best;
        }

        long sure(int f, int e) {
            if (!patch(f) || !in(e, 0, 99)) return BAD;
            int set = 0;
            for (int s = 0; s < laid.g.size(); s++) if (ground(f, s, e, false) > 0) set += 1 << s;
            return set;
        }

        long leave(int h, int what) {
            if (!in(h, 0, 399) || !in(what, 0, 1)) return BAD;
            int best = NONE, fewest = 0;
            for (int set = 15; set >= 0; set--) {
                int saved = 0, grains = 0;
                boolean may = true;
                for (int k = 0; k < 4; k++) {
                    if ((set & (1 << k)) != 0) {
                        saved += laid.h[k];
                        may &= laid.m[k] == 0;
                    } else {
                        grains += Arrays.stream(laid.b[k]).sum();
                    }
                }
                if (may && saved >= h && (best == NONE || grains <= fewest)) {
                    best = set;
                    fewest = grains;
                }
            }
            return best == NONE ? NONE : what == 0 ? best : fewest;
        }

        long blind(int s, int t) {
            if (!sort(s) || !sort(t)) return BAD;
            if (found.blind.size() == 200) return FULL;
            found.blind.add(new int[] {s, t});
            return so(s, t);
        }

        long so(int s, int t) {
            return found.blind.stream().filter(x -> (s == -1 || x[0] == s) && (t == -1 || x[1] == t)).count();
        }

        long slips(int s, int t, int part) {
            if (!sort(s) || !sort(t) || !in(part, 0, 1)) return BAD;
            return so(s, -1) == 0 ? NONE : term(big(so(s, t)), big(so(s, -1)), part);
        }

        long lean(int t) { return sort(t) ? so(-1, t) - so(t, -1) : -1000; }

        long right(int t, int c) {
            if (!sort(t) || !in(c, 0, 999)) return BAD;
            return so(-1, t) == 0 ? NONE : c * so(t, -1) / so(-1, t);
        }

        long teeth(int set) {
            if (set < 0 || set >= Math.pow(2, laid.g.size())) return BAD;
            int was = found.teeth;
            found.teeth = set;
            return was;
        }

        long next() {
            int best = NONE, greatest = 0;
            for (int f = laid.f.size() - 1; f >= 0; f--) {
                if (laid.f.get(f)[1] != 0 || found.read[f]) continue;
                int area = 0;
                for (int k = 0; k < laid.f.size(); k++) {
                    int[] p = laid.f.get(k);
                    if (p[0] == laid.f.get(f)[0] && p[1] != 0 && found.read[k]) area += p[2];
                }
                if (best == NONE || area >= greatest) {
                    best = f;
                    greatest = area;
                }
            }
            return best;
        }

        long keep() {
            if (kept.size() == 2) return FULL;
            kept.push(found.copy());
            return kept.size();
        }

        long back() {
            if (kept.isEmpty()) return NO;
            found = kept.pop();
            return kept.size();
        }

        long size(int what) {
            int read = 0;
            for (boolean r : found.read) read += r ? 1 : 0;
            long[] sizes = {laid.g.size(), laid.f.size(), text.length(), found.blind.size(), kept.size(), read};
            return in(what, 0, 5) ? sizes[what] : BAD;
        }
    }

    private static final class Found {
        int[][] count = new int[10][6];
        boolean[] read = new boolean[10];
        List<int[]> blind = new ArrayList<>();
        int teeth;

        Found copy() {
            Found c = new Found();
            for (int f = 0; f < 10; f++) c.count[f] = count[f].clone();
            c.read = read.clone();
            c.blind = new ArrayList<>(blind);
            c.teeth = teeth;
            return c;
        }
    }

    /** A text taken apart by patterns. */
    private static final class Laid {
        private static final Pattern ITEM = Pattern.compile("([gf])(\\d{1,3}),(\\d{1,3}),(\\d{1,3}),(\\d{1,3});"
            + "|([ubtx])(\\d{1,3}),(\\d{1,3}),(\\d{1,3});|(w)(\\d{1,3}),(\\d{1,3});");
        int fault = NONE;
        List<int[]> g = new ArrayList<>(), f = new ArrayList<>();
        int[][] u = new int[10][6], b = new int[4][6], x = new int[6][6];
        int[] w = new int[4], h = new int[4], m = new int[4];

        static Laid of(String text) {
            Laid l = new Laid();
            Matcher items = ITEM.matcher(text);
            int at = 0;
            while (at < text.length()) {
                items.region(at, text.length());
                if (!items.lookingAt() || !l.add(items.group())) {
                    l.fault = at;
                    return l;
                }
                at = items.end();
            }
            return l;
        }

        boolean add(String item) {
            int[] n = Arrays.stream(item.substring(1, item.length() - 1).split(",")).mapToInt(Integer::parseInt).toArray();
            switch (item.charAt(0)) {
                case 'g': return g.size() < 6 && Arrays.stream(n).sum() == 100 && g.add(n);
                case 'f': return f.size() < 10 && n[0] <= 7 && n[1] <= 3 && n[2] >= 1 && n[2] <= 9 && n[3] <= 15 && f.add(n);
                case 'u':
                    if (n[0] >= f.size() || n[1] >= g.size() || n[2] > 60) return false;
                    u[n[0]][n[1]] = n[2];
                    return true;
                case 'b':
                    if (n[0] > 3 || n[1] >= g.size() || n[2] > 9) return false;
                    b[n[0]][n[1]] = n[2];
                    return true;
                case 'w':
                    if (n[0] > 3 || n[1] > 99) return false;
                    w[n[0]] = n[1];
                    return true;
                case 't':
                    if (n[0] > 3 || n[1] > 99 || n[2] > 1) return false;
                    h[n[0]] = n[1];
                    m[n[0]] = n[2];
                    return true;
                default:
                    if (n[0] >= g.size() || n[1] >= g.size() || n[0] == n[1] || n[2] > 99) return false;
                    int[] row = x[n[0]].clone();
                    row[n[1]] = n[2];
                    if (Arrays.stream(row).sum() > 100) return false;
                    x[n[0]] = row;
                    return true;
            }
        }
    }

    private static long ask(QuernGrains q, String name, long[] a) {
        int[] i = new int[a.length];
        for (int k = 0; k < a.length; k++) {
            i[k] = (int) a[k];
        }
        switch (name) {
            case "write": return q.write(i[0], a[1]);
            case "wipe": return q.wipe();
            case "fault": return q.fault();
            case "lay": return q.lay();
            case "face": return q.face(i[0], i[1]);
            case "lies": return q.lies(i[0], i[1], i[2]);
            case "read": return q.read(i[0], i[1], i[2]);
            case "more": return q.more(i[0], i[1], i[2], i[3], i[4]);
            case "says": return q.says(i[0], i[1], i[2]);
            case "controls": return q.controls(i[0], i[1], i[2]);
            case "heap": return q.heap(i[0], i[1], i[2], i[3], i[4], i[5]);
            case "most": return q.most(i[0], i[1], i[2], i[3]);
            case "shares": return q.shares(i[0], i[1], i[2], i[3], i[4], i[5]);
            case "kin": return q.kin(i[0], i[1]);
            case "cooked": return q.cooked(i[0], i[1], i[2]);
            case "count": return q.count(i[0], i[1], i[2]);
            case "books": return q.books(i[0], i[1], i[2], i[3] != 0);
            case "ground": return q.ground(i[0], i[1], i[2], i[3] != 0);
            case "sure": return q.sure(i[0], i[1]);
            case "leave": return q.leave(i[0], i[1]);
            case "blind": return q.blind(i[0], i[1]);
            case "slips": return q.slips(i[0], i[1], i[2]);
            case "lean": return q.lean(i[0]);
            case "right": return q.right(i[0], i[1]);
            case "teeth": return q.teeth(i[0]);
            case "eaten": return q.eaten(i[0], i[1]);
            case "next": return q.next();
            case "keep": return q.keep();
            case "back": return q.back();
            case "size": return q.size(i[0]);
            default: throw new IllegalStateException(name);
        }
    }

    /** Name, then for each argument the least and the greatest that is asked in earnest. */
    private static final String[] CALLS = {
        "face 0 9 0 4", "lies 0 9 0 5 -1 4", "read 0 9 0 9999 0 5", "more 0 6 1 9 0 6 1 9 0 1", "says 1 9 1 9 1 1000",
        "controls 1 9 1 9 1 1000", "heap 0 5 0 2 0 2 0 2 0 2 0 1", "most 0 2 0 2 0 2 0 2", "shares 0 5 0 5 0 2 0 1 0 2 0 1",
        "kin 0 200 -1 5", "cooked 0 5 0 100 0 4", "count 0 9 0 5 0 99", "count 0 9 0 5 0 20", "count 0 9 0 5 0 99",
        "books 0 5 0 20 -1 3 0 1", "books 0 5 0 99 -1 3 0 1", "ground 0 9 0 5 0 30 0 1", "sure 0 9 0 40", "leave 0 399 0 1",
        "leave 0 100 0 1", "blind 0 5 0 5", "blind 0 2 0 2", "slips 0 5 0 5 0 1", "lean 0 5", "right 0 5 0 999", "teeth 0 63",
        "eaten 0 9 0 40", "next", "keep", "back", "size 0 5", "fault",
    };

    private static long wild(Random r) {
        int[] edges = {-1, -2, 10, 6, 7, 16, 100, 1000, 10000, 200, 400, 12, 13, 64, Integer.MAX_VALUE, Integer.MIN_VALUE, 0, 1};
        return r.nextInt(3) == 0 ? r.nextInt() : edges[r.nextInt(edges.length)];
    }

    private static String item(Random r) {
        boolean off = r.nextInt(60) == 0;
        switch (r.nextInt(8)) {
            case 0: {
                int a = r.nextInt(101), b = r.nextInt(101 - a), c = r.nextInt(101 - a - b);
                int d = 100 - a - b - c + (off ? 1 : 0);
                return "g" + a + "," + b + "," + c + "," + d + ";";
            }
            case 1: case 2:
                return "f" + r.nextInt(off ? 12 : 3) + "," + (r.nextBoolean() ? 3 : r.nextInt(off ? 5 : 4)) + ","
                    + (off ? r.nextInt(12) : 1 + r.nextInt(9)) + "," + r.nextInt(off ? 20 : 16) + ";";
            case 3: return "u" + r.nextInt(off ? 12 : 2) + "," + r.nextInt(2) + "," + r.nextInt(off ? 100 : 61) + ";";
            case 4: return "b" + r.nextInt(off ? 6 : 4) + "," + r.nextInt(off ? 8 : 2) + ",0" + r.nextInt(off ? 12 : 10) + ";";
            case 5: return "w" + r.nextInt(off ? 6 : 4) + "," + r.nextInt(off ? 130 : 100) + ";";
            case 6: return "t" + r.nextInt(off ? 6 : 4) + "," + r.nextInt(off ? 130 : 100) + "," + r.nextInt(off ? 3 : 2) + ";";
            default: return "x" + r.nextInt(2) + "," + r.nextInt(off ? 8 : 3) + "," + r.nextInt(off ? 130 : 50) + ";";
        }
    }

    private static String textOf(Random r) {
        StringBuilder b = new StringBuilder();
        int first = 1 + r.nextInt(6);
        for (int k = 0; k < first; k++) {
            b.append(k % 2 == 0 ? "g40,30,20,10;" : "g" + (10 + k) + ",20,30," + (40 - k) + ";").append("f" + k % 3 + "," + (k % 2) * 3 + "," + (k + 1) + "," + r.nextInt(16) + ";");
        }
        int more = r.nextInt(25);
        for (int k = 0; k < more; k++) {
            b.append(item(r));
        }
        if (r.nextInt(8) == 0) {
            b.setCharAt(r.nextInt(b.length()), (char) (r.nextBoolean() ? r.nextInt(256) : ",;0g".charAt(r.nextInt(4))));
        }
        return b.toString();
    }

    private static int made = 0;

    private static long compare(int run, QuernGrains q, Model m, String name, long... a) {
        long want = m.call(name, a);
        long got = ask(q, name, a);
        made++;
        if (got != want) {
            wrong++;
            if (wrong < 50) {
                System.out.println("run " + run + ": " + name + Arrays.toString(a) + " answered " + got + ", due is " + want);
            }
        }
        return got;
    }

    private static int writeText(int run, QuernGrains q, Model m, String text) {
        int calls = 0;
        for (int at = 0; at < text.length(); at += 8) {
            String part = text.substring(at, Math.min(text.length(), at + 8));
            long v = -1;
            for (char c : part.toCharArray()) {
                v = v << 8 | c;
            }
            compare(run, q, m, "write", part.length(), v);
            calls++;
        }
        return calls;
    }

    private static void run(int run) {
        Random r = new Random(run);
        QuernGrains q = new QuernGrains();
        Model m = new Model();
        int calls = 0;
        while (calls < 440) {
            if (calls == 0 && run % 5 != 0 || r.nextInt(120) == 0) {
                if (r.nextInt(4) != 0) {
                    compare(run, q, m, "wipe");
                }
                calls += 3 + writeText(run, q, m, textOf(r));
                compare(run, q, m, "fault");
                compare(run, q, m, "lay");
                continue;
            }
            String[] call = CALLS[r.nextInt(CALLS.length)].split(" ");
            long[] a = new long[call.length / 2];
            for (int k = 0; k < a.length; k++) {
                int least = Integer.parseInt(call[1 + 2 * k]);
                int greatest = Integer.parseInt(call[2 + 2 * k]);
                a[k] = r.nextInt(40) == 0 ? wild(r) : least + r.nextInt(greatest - least + 1);
            }
            compare(run, q, m, call[0], a);
            calls++;
        }
    }

    public static void main(String[] args) {
        for (int run = 0; run < 150; run++) {
            run(run);
        }
        System.out.println(wrong == 0 ? made + " answers are as the model's" : wrong + " answers are not as the model's");
        if (wrong != 0) {
            System.exit(1);
        }
    }
}
