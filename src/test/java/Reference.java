import java.math.BigInteger;
import java.util.ArrayList;
import java.util.List;

/**
 * The document's promises once more, in the plainest way that can be thought of, with the whole library:
 * all corners are tried, all sets of bounds are tried. The class is compared with it call by call.
 */
public final class Reference {
    private static final BigInteger ZERO = BigInteger.ZERO;

    private record Bound(int code, BigInteger[] parts) { }

    private record Line(BigInteger[] upper, BigInteger lower) {
        int compare(Line other, boolean greatest) {
            for (int t = 0; t < 3; t++) {
                int c = upper[t].multiply(other.lower).compareTo(other.upper[t].multiply(lower));
                if (c != 0) {
                    return t == 0 && greatest ? -c : c;
                }
            }
            return 0;
        }
    }

    private static final class Block {
        int kind;
        int[] xs;
        int[] ys;
        int area;
        int weight;
        int spot;
        BigInteger[] middle;
    }

    private static final class Vault {
        int[] places;
        int[][] piers = new int[2][];
        List<int[]> loads = new ArrayList<>();
        int p = 1;
        int q = 2;
    }

    private final List<Integer> widths = new ArrayList<>();
    private final List<int[][]> racks = new ArrayList<>();
    private final List<Block> blocks = new ArrayList<>();
    private final List<Vault> vaults = new ArrayList<>();
    private String page = "";
    private boolean judged;
    private Line least;
    private Line greatest;
    private List<Bound> judgedBounds;
    private List<Bound> never;
    private BigInteger[] neverWeights;

    public int rack(int width) {
        if (width < 0 || width > 1) throw new IllegalArgumentException();
        if (racks.size() == 8) throw new IllegalStateException();
        widths.add(width);
        racks.add(new int[40][]);
        return racks.size() - 1;
    }

    private void checkRow(int rack, int k) {
        if (rack < 0 || rack >= racks.size() || k < 0 || k >= 40) throw new IndexOutOfBoundsException();
    }

    public void row(int rack, int k, int n) {
        checkRow(rack, k);
        if (n < 0 || n > 40) throw new IllegalArgumentException();
        racks.get(rack)[k] = new int[n];
    }

    public int put(int rack, int k, int i, int v) {
        checkRow(rack, k);
        int[] row = racks.get(rack)[k];
        if (row == null || i < 0 || i >= row.length) return Integer.MIN_VALUE;
        int old = row[i];
        row[i] = widths.get(rack) == 0 ? (short) v : v;
        return old;
    }

    public int tear(int rack, int k, int n) {
        checkRow(rack, k);
        int[] row = racks.get(rack)[k];
        if (row == null || n < 0 || n > row.length) return 0;
        racks.get(rack)[k] = java.util.Arrays.copyOf(row, n);
        return 1;
    }

    public int stone(int kind, int rack, int k, int part) {
        checkRow(rack, k);
        if (kind < 0 || kind > 4 || part < 0 || part > (kind == 4 ? 99 : 0)) throw new IllegalArgumentException();
        int[] row = racks.get(rack)[k];
        if (row == null) return -1;
        if (row.length < 6 || row.length > 24 || row.length % 2 == 1) return -2;
        for (int v : row) if (v < -100 || v > 100) return -3;
        Block b = new Block();
        int n = row.length / 2;
        b.kind = kind;
        b.xs = new int[n];
        b.ys = new int[n];
        for (int i = 0; i < n; i++) {
            b.xs[i] = row[2 * i];
            b.ys[i] = row[2 * i + 1];
        }
        if (!isSimple(b)) return -4;
        if (blocks.size() == 120) return -5;
        weighBlock(b, part);
        blocks.add(b);
        return blocks.size() - 1;
    }

    /** Faces are moved along by fractions s and t of their ways, and these are solved for. */
    private static boolean isSimple(Block b) {
        int n = b.xs.length;
        for (int i = 0; i < n; i++) {
            for (int j = i + 1; j < n; j++) {
                if (facesClash(b, i, j, n)) return false;
            }
            if (b.xs[i] == b.xs[(i + 1) % n] && b.ys[i] == b.ys[(i + 1) % n]) return false;
        }
        long area = 0;
        for (int i = 1; i + 1 < n; i++) area += fan(b, i);
        b.area = (int) area;
        return area > 0;
    }

    private static long fan(Block b, int i) {
        return (long) (b.xs[i] - b.xs[0]) * (b.ys[i + 1] - b.ys[0]) - (long) (b.ys[i] - b.ys[0]) * (b.xs[i + 1] - b.xs[0]);
    }

    private static boolean facesClash(Block b, int i, int j, int n) {
        long px = b.xs[i], py = b.ys[i], ux = b.xs[(i + 1) % n] - px, uy = b.ys[(i + 1) % n] - py;
        long rx = b.xs[j], ry = b.ys[j], wx = b.xs[(j + 1) % n] - rx, wy = b.ys[(j + 1) % n] - ry;
        long det = ux * wy - uy * wx;
        long sx = rx - px, sy = ry - py;
        if (det != 0) {
            long s = (sx * wy - sy * wx) * Long.signum(det);
            long t = (sx * uy - sy * ux) * Long.signum(det);
            long d = Math.abs(det);
            boolean meet = s >= 0 && s <= d && t >= 0 && t <= d;
            boolean neighbours = j == i + 1 || i == 0 && j == n - 1;
            return meet && !neighbours;
        }
        if (sx * uy - sy * ux != 0) return false;
        long length = ux * ux + uy * uy;
        long a = sx * ux + sy * uy, c = a + wx * ux + wy * uy;
        long from = Math.max(0, Math.min(a, c)), to = Math.min(length, Math.max(a, c));
        boolean neighbours = j == i + 1 || i == 0 && j == n - 1;
        return neighbours ? from < to : from <= to;
    }

    private static void weighBlock(Block b, int part) {
        int n = b.xs.length;
        BigInteger mx = ZERO, my = ZERO;
        for (int i = 1; i + 1 < n; i++) {
            mx = mx.add(big(fan(b, i)).multiply(big(b.xs[0] + b.xs[i] + b.xs[i + 1])));
            my = my.add(big(fan(b, i)).multiply(big(b.ys[0] + b.ys[i] + b.ys[i + 1])));
        }
        BigInteger lower = big(3L * b.area);
        BigInteger gx = mx.gcd(lower), gy = my.gcd(lower);
        b.middle = new BigInteger[] {mx.divide(gx), lower.divide(gx), my.divide(gy), lower.divide(gy)};
        b.spot = mx.multiply(big(10)).divide(lower).intValue();
        float[] density = {2.5f, 2.75f, 2.5f, 1.625f, 1.625f};
        float weight = (float) b.area * density[b.kind];
        b.weight = (int) weight;
        if (b.kind == 4) b.weight -= (int) ((long) b.weight * part / 100);
    }

    private static BigInteger big(long v) {
        return BigInteger.valueOf(v);
    }

    public int told(int s, int what) {
        if (s < 0 || s >= blocks.size()) throw new IndexOutOfBoundsException();
        Block b = blocks.get(s);
        if (what < 0 || what >= 9 + 2 * b.xs.length) throw new IllegalArgumentException();
        if (what >= 9) return (what - 9) % 2 == 0 ? b.xs[(what - 9) / 2] : b.ys[(what - 9) / 2];
        if (what >= 5) return b.middle[what - 5].intValueExact();
        return new int[] {b.kind, b.xs.length, b.area, b.weight, b.spot}[what];
    }

    public int arch(int n) {
        if (n < 1 || n > 10) throw new IllegalArgumentException();
        if (vaults.size() == 12) throw new IllegalStateException();
        Vault v = new Vault();
        v.places = new int[n];
        java.util.Arrays.fill(v.places, -1);
        vaults.add(v);
        return vaults.size() - 1;
    }

    private Vault vault(int arch) {
        if (arch < 0 || arch >= vaults.size()) throw new IndexOutOfBoundsException();
        return vaults.get(arch);
    }

    private Vault vault(int arch, int p) {
        Vault v = vault(arch);
        if (p < 0 || p >= v.places.length) throw new IndexOutOfBoundsException();
        return v;
    }

    public void pier(int arch, int side, int x1, int y1, int x2, int y2) {
        Vault v = vault(arch);
        if (side < 0 || side > 1) throw new IllegalArgumentException();
        for (int c : new int[] {x1, y1, x2, y2}) if (c < -100 || c > 100) throw new IllegalArgumentException();
        if (x1 == x2 && y1 == y2) throw new IllegalArgumentException();
        v.piers[side] = new int[] {x1, y1, x2, y2};
    }

    public void place(int arch, int p, int s) {
        Vault v = vault(arch, p);
        if (s < -2 || s >= blocks.size()) throw new IndexOutOfBoundsException();
        v.places[p] = s;
        if (s < 0) v.loads.removeIf(load -> load[0] == p);
    }

    public int there(int arch, int p) {
        return vault(arch, p).places[p];
    }

    public int load(int arch, int p, int x, int grains) {
        Vault v = vault(arch, p);
        if (grains < 1 || grains > 100000) throw new IllegalArgumentException();
        if (v.loads.size() == 6 || v.places[p] < 0) return -1;
        int[] xs = blocks.get(v.places[p]).xs.clone();
        java.util.Arrays.sort(xs);
        if (x < 10 * xs[0] || x > 10 * xs[xs.length - 1]) return -1;
        v.loads.add(new int[] {p, x, grains});
        return v.loads.size();
    }

    public void slope(int arch, int p, int q) {
        Vault v = vault(arch);
        if (p < 0 || p > 20 || q < 1 || q > 20) throw new IllegalArgumentException();
        v.p = p;
        v.q = q;
    }

    private boolean isStone(Vault v, int p) {
        return p >= 0 && p < v.places.length && v.places[p] >= 0;
    }

    private int kind(Vault v, int p) {
        return isStone(v, p) ? blocks.get(v.places[p]).kind : -1;
    }

    public int whole(int arch) {
        Vault v = vault(arch);
        int n = v.places.length;
        for (int p = 0; p < n; p++) {
            if (!isStone(v, p)) return p;
            if (kind(v, p) == 1 && !(isStone(v, p - 1) && isStone(v, p + 1))) return p;
            if (kind(v, p) == 2 && p > 0 && p < n - 1) return p;
        }
        if (v.piers[0] == null) return 100;
        if (v.piers[1] == null) return 101;
        for (int k = 0; k <= n; k++) if (span(v, k) == null) return 200 + k;
        return -1;
    }

    private List<int[]> faces(Vault v, int p) {
        List<int[]> list = new ArrayList<>();
        int n = v.places.length;
        if (p == -1 || p == n) {
            if (v.piers[p == -1 ? 0 : 1] != null) list.add(v.piers[p == -1 ? 0 : 1]);
        } else if (isStone(v, p)) {
            Block b = blocks.get(v.places[p]);
            int m = b.xs.length;
            for (int i = 0; i < m; i++) list.add(new int[] {b.xs[i], b.ys[i], b.xs[(i + 1) % m], b.ys[(i + 1) % m]});
        }
        return list;
    }

    /** Both faces' points are told as whole numbers along the left face's way. */
    private int[] span(Vault v, int k) {
        for (int[] l : faces(v, k - 1)) {
            for (int[] r : faces(v, k)) {
                long ux = l[2] - l[0], uy = l[3] - l[1], wx = r[2] - r[0], wy = r[3] - r[1];
                boolean parallel = ux * wy == uy * wx;
                boolean opposite = ux * wx + uy * wy < 0;
                boolean oneLine = ux * (r[1] - l[1]) == uy * (r[0] - l[0]);
                if (!parallel || !opposite || !oneLine) continue;
                int axis = ux != 0 ? 0 : 1;
                int sign = (axis == 0 ? ux : uy) > 0 ? 1 : -1;
                int[] a = sign * l[axis] >= sign * r[2 + axis] ? new int[] {l[0], l[1]} : new int[] {r[2], r[3]};
                int[] b = sign * l[2 + axis] <= sign * r[axis] ? new int[] {l[2], l[3]} : new int[] {r[0], r[1]};
                if (sign * a[axis] < sign * b[axis]) return new int[] {a[0], a[1], b[0], b[1]};
            }
        }
        return null;
    }

    public int joint(int arch, int k, int what) {
        Vault v = vault(arch);
        if (k < 0 || k > v.places.length) throw new IndexOutOfBoundsException();
        if (what < 0 || what > 3) throw new IllegalArgumentException();
        int[] span = span(v, k);
        return span == null ? -1000 : span[what];
    }

    /** A bound as its values at h, v, m = 0 and at each being 1, taken by the words of the document. */
    private interface Value {
        BigInteger at(long h, long v, long m);
    }

    private static Bound bound(int code, Value value) {
        BigInteger rest = value.at(0, 0, 0);
        return new Bound(code, new BigInteger[] {value.at(1, 0, 0).subtract(rest), value.at(0, 1, 0).subtract(rest),
            value.at(0, 0, 1).subtract(rest), rest});
    }

    private List<Bound> bounds(Vault v, int first, int last, boolean slopes, boolean loads, int room) {
        List<Bound> list = new ArrayList<>();
        for (int k = first; k <= last + 1; k++) {
            long w = 0, s = 0;
            for (int p = first; p < k; p++) {
                Block b = blocks.get(v.places[p]);
                w += b.weight;
                s += (long) b.weight * b.spot;
                for (int[] load : v.loads) {
                    if (loads && load[0] == p) {
                        w += load[2];
                        s += (long) load[2] * load[1];
                    }
                }
            }
            jointBounds(list, v, k, new long[] {w, s}, slopes, room);
        }
        int end = 4 * (last + 2);
        long far = 1000000000L;
        list.add(bound(end, (h, y, m) -> big(h)));
        list.add(bound(end + 1, (h, y, m) -> big(far - h)));
        list.add(bound(end + 2, (h, y, m) -> big(y + far)));
        list.add(bound(end + 3, (h, y, m) -> big(far - y)));
        return list;
    }

    private void jointBounds(List<Bound> list, Vault v, int k, long[] ahead, boolean slopes, int room) {
        int[] j = span(v, k);
        boolean filled = kind(v, k - 1) >= 3 || kind(v, k) >= 3;
        // All points are told in 256ths where room is asked for, in quarters at a filled stone, or whole.
        long scale = room >= 0 ? 256 : filled ? 4 : 1;
        long in = (filled ? scale / 4 : 0) + (room >= 0 ? (filled ? room : 2L * room) : 0);
        long ax = scale * j[0] + in * (j[2] - j[0]), ay = scale * j[1] + in * (j[3] - j[1]);
        long bx = scale * j[2] - in * (j[2] - j[0]), by = scale * j[3] - in * (j[3] - j[1]);
        long w = ahead[0], s = ahead[1];
        list.add(bound(4 * k, (h, y, m) -> moment(scale, m - s, h, y - w, ax, ay).negate()));
        list.add(bound(4 * k + 1, (h, y, m) -> moment(scale, m - s, h, y - w, bx, by)));
        boolean springs = k == 0 && kind(v, 0) == 2 || k == v.places.length && kind(v, k - 1) == 2;
        if (!slopes || springs) return;
        long dx = j[2] - j[0], dy = j[3] - j[1], nx = dy, ny = -dx;
        list.add(bound(4 * k + 2, (h, y, m) ->
            big(v.p * (h * nx + (y - w) * ny) - v.q * (h * dx + (y - w) * dy))));
        list.add(bound(4 * k + 3, (h, y, m) ->
            big(v.p * (h * nx + (y - w) * ny) + v.q * (h * dx + (y - w) * dy))));
    }

    private static BigInteger moment(long scale, long turn, long fx, long fy, long x, long y) {
        return big(scale).multiply(big(turn)).subtract(big(10).multiply(big(x * fy - y * fx)));
    }

    private static BigInteger at(Bound b, BigInteger[] upper, BigInteger lower) {
        BigInteger sum = b.parts[3].multiply(lower);
        for (int t = 0; t < 3; t++) sum = sum.add(b.parts[t].multiply(upper[t]));
        return sum;
    }

    private static BigInteger det(BigInteger[] a, BigInteger[] b, BigInteger[] c, int i, int j, int k) {
        return a[i].multiply(b[j].multiply(c[k]).subtract(b[k].multiply(c[j])))
            .subtract(a[j].multiply(b[i].multiply(c[k]).subtract(b[k].multiply(c[i]))))
            .add(a[k].multiply(b[i].multiply(c[j]).subtract(b[j].multiply(c[i]))));
    }

    /** The set is bounded, so its least line is at a corner: all corners are tried. */
    private static Line best(List<Bound> list, boolean greatest) {
        Line best = null;
        for (int i = 0; i < list.size(); i++) {
            for (int j = i + 1; j < list.size(); j++) {
                for (int k = j + 1; k < list.size(); k++) {
                    Line line = corner(list.get(i).parts, list.get(j).parts, list.get(k).parts);
                    if (line == null || best != null && line.compare(best, greatest) >= 0) continue;
                    if (isSafe(list, line)) best = line;
                }
            }
        }
        return best;
    }

    private static boolean isSafe(List<Bound> list, Line line) {
        for (Bound b : list) if (at(b, line.upper, line.lower).signum() < 0) return false;
        return true;
    }

    private static Line corner(BigInteger[] a, BigInteger[] b, BigInteger[] c) {
        BigInteger d = det(a, b, c, 0, 1, 2);
        if (d.signum() == 0) return null;
        BigInteger[] upper = {det(a, b, c, 3, 1, 2).negate(), det(a, b, c, 0, 3, 2).negate(), det(a, b, c, 0, 1, 3).negate()};
        if (d.signum() < 0) {
            for (int t = 0; t < 3; t++) upper[t] = upper[t].negate();
            d = d.negate();
        }
        return new Line(upper, d);
    }

    private List<Bound> wholeBounds(Vault v, boolean slopes) {
        return bounds(v, 0, v.places.length - 1, slopes, true, -1);
    }

    public int line(int arch, int how, int h, int v, int m) {
        Vault vault = vault(arch);
        int far = 1000000000;
        if (how < 0 || how > 1) throw new IllegalArgumentException();
        for (int c : new int[] {h, v, m}) if (c < -far || c > far) throw new IllegalArgumentException();
        if (whole(arch) != -1) throw new IllegalStateException();
        for (Bound b : wholeBounds(vault, how == 0)) {
            if (at(b, new BigInteger[] {big(h), big(v), big(m)}, BigInteger.ONE).signum() < 0) return b.code;
        }
        return -1;
    }

    public int judge(int arch, int how) {
        Vault v = vault(arch);
        if (how < 0 || how > 1) throw new IllegalArgumentException();
        if (whole(arch) != -1) throw new IllegalStateException();
        judgedBounds = wholeBounds(v, how == 0);
        judged = true;
        never = null;
        least = best(judgedBounds, false);
        greatest = best(judgedBounds, true);
        if (least == null) findNever();
        return least == null ? 0 : 1;
    }

    private void findNever() {
        int n = judgedBounds.size();
        for (int size = 2; size <= 4 && never == null; size++) pickNever(new ArrayList<>(), 0, size, n);
        if (never == null) throw new AssertionError("no set of four or less");
        neverWeights = weights(never);
    }

    private boolean pickNever(List<Bound> set, int from, int size, int n) {
        if (set.size() == size) {
            List<BigInteger[]> rows = new ArrayList<>();
            for (Bound b : set) rows.add(b.parts);
            if (isKept(rows)) return false;
            never = new ArrayList<>(set);
            return true;
        }
        for (int i = from; i < n; i++) {
            set.add(judgedBounds.get(i));
            if (pickNever(set, i + 1, size, n)) return true;
            set.remove(set.size() - 1);
        }
        return false;
    }

    /** Fourier and Motzkin's way: one number after the other is taken out. */
    private static boolean isKept(List<BigInteger[]> rows) {
        for (int t = 2; t >= 0; t--) {
            List<BigInteger[]> next = new ArrayList<>();
            for (BigInteger[] a : rows) {
                if (a[t].signum() == 0) next.add(a);
                for (BigInteger[] b : rows) {
                    if (a[t].signum() > 0 && b[t].signum() < 0) {
                        BigInteger[] sum = new BigInteger[4];
                        for (int i = 0; i < 4; i++) {
                            sum[i] = a[i].multiply(b[t].negate()).add(b[i].multiply(a[t]));
                        }
                        next.add(sum);
                    }
                }
            }
            rows = next;
        }
        for (BigInteger[] a : rows) if (a[3].signum() < 0) return false;
        return true;
    }

    /** The one relation of the set's directions, by elimination over fractions of whole numbers. */
    private static BigInteger[] weights(List<Bound> set) {
        int n = set.size();
        BigInteger[][] m = new BigInteger[3][n];
        for (int t = 0; t < 3; t++) for (int i = 0; i < n; i++) m[t][i] = set.get(i).parts[t];
        int rank = 0;
        int[] pivots = new int[3];
        int free = -1;
        for (int col = 0; col < n; col++) {
            int row = rank;
            while (row < 3 && m[row][col].signum() == 0) row++;
            if (row == 3) {
                if (free >= 0) throw new AssertionError("more than one relation");
                free = col;
                continue;
            }
            BigInteger[] swap = m[row];
            m[row] = m[rank];
            m[rank] = swap;
            for (int r = 0; r < 3; r++) {
                if (r == rank || m[r][col].signum() == 0) continue;
                BigInteger f = m[r][col];
                for (int c = 0; c < n; c++) m[r][c] = m[r][c].multiply(m[rank][col]).subtract(m[rank][c].multiply(f));
            }
            pivots[rank++] = col;
        }
        if (free < 0) throw new AssertionError("no relation");
        BigInteger common = BigInteger.ONE;
        for (int r = 0; r < rank; r++) common = common.multiply(m[r][pivots[r]].abs());
        BigInteger[] w = new BigInteger[n];
        w[free] = common;
        for (int r = 0; r < rank; r++) w[pivots[r]] = m[r][free].multiply(common).divide(m[r][pivots[r]]).negate();
        BigInteger g = ZERO;
        for (BigInteger x : w) g = g.gcd(x);
        for (int i = 0; i < n; i++) {
            w[i] = w[i].divide(g);
            if (w[i].signum() <= 0) throw new AssertionError("a weight not above 0");
        }
        return w;
    }

    public int number(int what) {
        if (!judged || least == null) throw new IllegalStateException();
        if (what < 0 || what > 5) throw new IllegalArgumentException();
        Line line = what < 3 ? least : greatest;
        BigInteger g = line.upper[what % 3].gcd(line.lower);
        BigInteger q = line.lower.divide(g);
        page = line.upper[what % 3].divide(g) + (q.equals(BigInteger.ONE) ? "" : "/" + q);
        return page.length();
    }

    public int bound(int which, int k) {
        if (!judged || which < 0 || which > 2 || k < 0) return -1;
        List<Bound> list = new ArrayList<>();
        if (which == 2 && never != null) list = never;
        if (which < 2 && least != null) {
            Line line = which == 0 ? least : greatest;
            for (Bound b : judgedBounds) if (at(b, line.upper, line.lower).signum() == 0) list.add(b);
        }
        return k < list.size() ? list.get(k).code : -1;
    }

    public int weigh(int k) {
        if (never == null || k < 0 || k > 4 || k < 4 && k >= never.size()) return -1;
        BigInteger sum = ZERO;
        for (int i = 0; i < never.size(); i++) sum = sum.add(neverWeights[i].multiply(never.get(i).parts[3]));
        page = (k == 4 ? sum : neverWeights[k]).toString();
        return page.length();
    }

    public int room(int arch) {
        Vault v = vault(arch);
        if (whole(arch) != -1) throw new IllegalStateException();
        int k = 0;
        while (k <= 64 && best(bounds(v, 0, v.places.length - 1, false, true, k), false) != null) k++;
        return k - 1;
    }

    public boolean strike(int arch, int i, int j) {
        Vault v = vault(arch, i);
        vault(arch, j);
        if (j < i) throw new IllegalArgumentException();
        if (whole(arch) != -1) throw new IllegalStateException();
        return best(bounds(v, i, j, true, false, -1), false) != null;
    }

    public int order(int arch, int k) {
        Vault v = vault(arch);
        if (whole(arch) != -1) throw new IllegalStateException();
        Boolean[][] known = new Boolean[10][10];
        for (int p = 0; p < v.places.length; p++) {
            List<Integer> row = grow(arch, p, p, known);
            if (row != null) return k >= 0 && k < row.size() ? row.get(k) : -1;
        }
        return -1;
    }

    /** The first row of places that goes on from places i to j, or null. */
    private List<Integer> grow(int arch, int i, int j, Boolean[][] known) {
        int n = vaults.get(arch).places.length;
        if (known[i][j] == null) known[i][j] = strike(arch, i, j);
        if (!known[i][j]) return null;
        List<Integer> rest = i == 0 && j == n - 1 ? new ArrayList<>() : null;
        int next = -1;
        if (rest == null && i > 0) {
            rest = grow(arch, i - 1, j, known);
            next = i - 1;
        }
        if (rest == null && j < n - 1) {
            rest = grow(arch, i, j + 1, known);
            next = j + 1;
        }
        if (rest == null) return null;
        if (next >= 0) rest.add(0, next);
        if (i == j) rest.add(0, i);
        return rest;
    }

    public int octet(int k) {
        return k >= 0 && k < page.length() ? page.charAt(k) : -1;
    }

    public int count(int what) {
        return what < 0 || what > 3 ? -1 : new int[] {racks.size(), blocks.size(), vaults.size(), page.length()}[what];
    }
}
