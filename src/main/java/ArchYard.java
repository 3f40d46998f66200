/** A yard in which arches are judged before they are built; DOC.md has its promises. */
public final class ArchYard {
    public static final int NONE = -1;

    private static final int WEDGE = -2;
    private static final int MISSING = -1000;
    private static final int NO_NUMBER = -2147483648;

    private static final int MAX_RACKS = 8;
    private static final int MAX_STONES = 120;
    private static final int MAX_ARCHES = 12;
    private static final int MAX_PLACES = 10;
    private static final int MAX_LOADS = 6;
    private static final int MAX_GRAINS = 100000;
    private static final int MAX_SLOPE = 20;
    private static final int FARTHEST = 100;
    private static final int LINE_LIMIT = 1000000000;

    private static final int KEY = 1;
    private static final int SPRINGER = 2;
    private static final int FILLED = 3;
    private static final int HOLLOW = 4;

    /** The room of joints is told in 64ths; at the last one a joint is a point. */
    private static final int ROOM_STEPS = 64;

    private final Rack[] racks = new Rack[MAX_RACKS];
    private final Stone[] stones = new Stone[MAX_STONES];
    private final Arch[] arches = new Arch[MAX_ARCHES];
    private final Bounds bounds = new Bounds();
    private final Corner corner = new Corner();
    private final Never never = new Never();
    private final Verdict verdict = new Verdict();
    private final Page page = new Page();
    private final boolean[] grows = new boolean[MAX_PLACES * MAX_PLACES];
    private int rackCount;
    private int stoneCount;
    private int archCount;

    public ArchYard() {
        rackCount = 0;
        stoneCount = 0;
        archCount = 0;
    }

    public int rack(int width) throws IllegalArgumentException, IllegalStateException {
        if (width != 0 && width != 1) {
            throw new IllegalArgumentException("no such width");
        }
        if (rackCount >= MAX_RACKS) {
            throw new IllegalStateException("no more racks");
        }
        racks[rackCount] = new Rack(width == 0);
        rackCount++;
        return rackCount - 1;
    }

    public void row(int rack, int k, int n) throws IndexOutOfBoundsException, IllegalArgumentException {
        Rack holder = rackWithRow(rack, k);
        if (n < 0 || n > Rack.LONGEST) {
            throw new IllegalArgumentException("no such length");
        }
        holder.lay(k, n);
    }

    public int put(int rack, int k, int i, int v) throws IndexOutOfBoundsException {
        return rackWithRow(rack, k).exchange(k, i, v);
    }

    public int tear(int rack, int k, int n) throws IndexOutOfBoundsException {
        return rackWithRow(rack, k).cut(k, n) ? 1 : 0;
    }

    public int stone(int kind, int rack, int k, int part)
            throws IndexOutOfBoundsException, IllegalArgumentException {
        Rack holder = rackWithRow(rack, k);
        if (!Stone.mayBe(kind, part)) {
            throw new IllegalArgumentException("no such kind or part");
        }
        int size = holder.sizeOf(k);
        if (size == NONE) {
            return -1;
        }
        if (size < 6 || size > 24 || size % 2 != 0) {
            return -2;
        }
        int[] corners = holder.copyOf(k);
        if (!Shape.isNear(corners)) {
            return -3;
        }
        if (!Shape.isSound(corners)) {
            return -4;
        }
        if (stoneCount >= MAX_STONES) {
            return -5;
        }
        stones[stoneCount] = new Stone(kind, part, corners);
        stoneCount++;
        return stoneCount - 1;
    }

    public int told(int s, int what) throws IndexOutOfBoundsException, IllegalArgumentException {
        Stone stone = stoneAt(s);
        if (what < 0 || what >= stone.facts()) {
            throw new IllegalArgumentException("no such what");
        }
        return stone.fact(what);
    }

    public int arch(int n) throws IllegalArgumentException, IllegalStateException {
        if (n < 1 || n > MAX_PLACES) {
            throw new IllegalArgumentException("no such size");
        }
        if (archCount >= MAX_ARCHES) {
            throw new IllegalStateException("no more arches");
        }
        arches[archCount] = new Arch(n);
        archCount++;
        return archCount - 1;
    }

    public void pier(int arch, int side, int x1, int y1, int x2, int y2)
            throws IndexOutOfBoundsException, IllegalArgumentException {
        Arch built = archAt(arch);
        if (side != 0 && side != 1) {
            throw new IllegalArgumentException("no such side");
        }
        if (isFar(x1, FARTHEST) || isFar(y1, FARTHEST) || isFar(x2, FARTHEST) || isFar(y2, FARTHEST)) {
            throw new IllegalArgumentException("a number out of bounds");
        }
        if (x1 == x2 && y1 == y2) {
            throw new IllegalArgumentException("both points the same");
        }
        built.raisePier(side, x1, y1, x2, y2);
    }

    public void place(int arch, int p, int s) throws IndexOutOfBoundsException {
        Arch built = archWithPlace(arch, p);
        if (s == NONE || s == WEDGE) {
            built.empty(p, s);
        } else {
            built.set(p, s, stoneAt(s));
        }
    }

    public int there(int arch, int p) throws IndexOutOfBoundsException {
        return archWithPlace(arch, p).standing(p);
    }

    public int load(int arch, int p, int x, int grains)
            throws IndexOutOfBoundsException, IllegalArgumentException {
        Arch built = archWithPlace(arch, p);
        if (grains < 1 || grains > MAX_GRAINS) {
            throw new IllegalArgumentException("no such grains");
        }
        return built.burden(p, x, grains);
    }

    public void slope(int arch, int p, int q) throws IndexOutOfBoundsException, IllegalArgumentException {
        Arch built = archAt(arch);
        if (p < 0 || p > MAX_SLOPE || q < 1 || q > MAX_SLOPE) {
            throw new IllegalArgumentException("no such slope");
        }
        built.lean(p, q);
    }

    public int whole(int arch) throws IndexOutOfBoundsException {
        return archAt(arch).fault();
    }

    public int joint(int arch, int k, int what) throws IndexOutOfBoundsException, IllegalArgumentException {
        Arch built = archAt(arch);
        if (k < 0 || k > built.size) {
            throw new IndexOutOfBoundsException("no such joint");
        }
        if (what < 0 || what > 3) {
            throw new IllegalArgumentException("no such what");
        }
        return built.hasSpan(k) ? built.span(k, what) : MISSING;
    }

    public int line(int arch, int how, int h, int v, int m)
            throws IndexOutOfBoundsException, IllegalArgumentException, IllegalStateException {
        Arch built = archAt(arch);
        requireHow(how);
        if (isFar(h, LINE_LIMIT) || isFar(v, LINE_LIMIT) || isFar(m, LINE_LIMIT)) {
            throw new IllegalArgumentException("a number out of bounds");
        }
        requireWhole(built);
        bounds.gather(built, how == 0);
        return bounds.firstBelow(h, v, m);
    }

    public int judge(int arch, int how)
            throws IndexOutOfBoundsException, IllegalArgumentException, IllegalStateException {
        Arch built = archAt(arch);
        requireHow(how);
        requireWhole(built);
        bounds.gather(built, how == 0);
        if (corner.seek(bounds, false)) {
            corner.report(bounds, verdict, Verdict.LEAST);
            corner.seek(bounds, true);
            corner.report(bounds, verdict, Verdict.GREATEST);
            return 1;
        }
        never.search(bounds);
        never.report(bounds, verdict);
        return 0;
    }

    public int number(int what) throws IllegalStateException, IllegalArgumentException {
        if (!verdict.isSafe()) {
            throw new IllegalStateException("no safe line was judged");
        }
        if (what < 0 || what >= Verdict.NUMBERS) {
            throw new IllegalArgumentException("no such what");
        }
        return verdict.writeNumber(what, page);
    }

    public int bound(int which, int k) {
        return verdict.boundAt(which, k);
    }

    public int weigh(int k) {
        return verdict.writeWeight(k, page);
    }

    public int room(int arch) throws IndexOutOfBoundsException, IllegalStateException {
        Arch built = archAt(arch);
        requireWhole(built);
        if (!isSafeNarrowed(built, 0)) {
            return NONE;
        }
        // While a joint is longer than a point, a line within it is within the wider ones too, so
        // halving finds the last step; the points of the very last step promise nothing of the kind.
        int safe = 0;
        for (int jump = ROOM_STEPS / 2; jump >= 1; jump /= 2) {
            if (isSafeNarrowed(built, safe + jump)) {
                safe += jump;
            }
        }
        boolean toTheEnd = safe == ROOM_STEPS - 1 && isSafeNarrowed(built, ROOM_STEPS);
        return toTheEnd ? ROOM_STEPS : safe;
    }

    public boolean strike(int arch, int i, int j)
            throws IndexOutOfBoundsException, IllegalArgumentException, IllegalStateException {
        Arch built = archWithPlace(arch, i);
        if (!built.hasPlace(j)) {
            throw new IndexOutOfBoundsException("no such place");
        }
        if (j < i) {
            throw new IllegalArgumentException("the last place is before the first");
        }
        requireWhole(built);
        return isStruck(built, i, j);
    }

    public int order(int arch, int k) throws IndexOutOfBoundsException, IllegalStateException {
        Arch built = archAt(arch);
        requireWhole(built);
        if (!built.isOrderKnown()) {
            findOrder(built);
        }
        return built.ordered(k);
    }

    public int octet(int k) {
        return page.byteAt(k);
    }

    public int count(int what) {
        switch (what) {
            case 0:
                return rackCount;
            case 1:
                return stoneCount;
            case 2:
                return archCount;
            case 3:
                return page.length();
            default:
                return NONE;
        }
    }

    private Rack rackWithRow(int rack, int k) {
        if (rack < 0 || rack >= rackCount || rack >= racks.length) {
            throw new IndexOutOfBoundsException("no such rack");
        }
        Rack holder = racks[rack];
        if (holder == null || k < 0 || k >= Rack.ROWS) {
            throw new IndexOutOfBoundsException("no such row");
        }
        return holder;
    }

    private Stone stoneAt(int s) {
        if (s < 0 || s >= stoneCount || s >= stones.length) {
            throw new IndexOutOfBoundsException("no such stone");
        }
        Stone stone = stones[s];
        if (stone == null) {
            throw new IndexOutOfBoundsException("no such stone");
        }
        return stone;
    }

    private Arch archAt(int arch) {
        if (arch < 0 || arch >= archCount || arch >= arches.length) {
            throw new IndexOutOfBoundsException("no such arch");
        }
        Arch built = arches[arch];
        if (built == null) {
            throw new IndexOutOfBoundsException("no such arch");
        }
        return built;
    }

    private Arch archWithPlace(int arch, int p) {
        Arch built = archAt(arch);
        if (!built.hasPlace(p)) {
            throw new IndexOutOfBoundsException("no such place");
        }
        return built;
    }

    private static void requireHow(int how) {
        if (how != 0 && how != 1) {
            throw new IllegalArgumentException("no such how");
        }
    }

    private static void requireWhole(Arch built) {
        if (built.fault() != NONE) {
            throw new IllegalStateException("the arch is not whole");
        }
    }

    private static boolean isFar(int number, int limit) {
        return number < -limit || number > limit;
    }

    private boolean isSafeNarrowed(Arch built, int step) {
        bounds.gatherNarrowed(built, step);
        return corner.seek(bounds, false);
    }

    private boolean isStruck(Arch built, int first, int last) {
        bounds.gatherRow(built, first, last);
        return corner.seek(bounds, false);
    }

    /** Wide rows are looked at before narrow ones: a row counts only if it can still grow to the whole. */
    private void findOrder(Arch built) {
        int n = built.size;
        for (int width = n; width >= 1; width--) {
            for (int i = 0; i + width <= n; i++) {
                int j = i + width - 1;
                boolean goesOn = width == n || canGrow(i - 1, j, n) || canGrow(i, j + 1, n);
                grows[i * MAX_PLACES + j] = goesOn && isStruck(built, i, j);
            }
        }
        built.clearOrder();
        int i = 0;
        while (i < n && !canGrow(i, i, n)) {
            i++;
        }
        if (i < n) {
            walkOrder(built, i);
        }
    }

    /** The place to the left has the lower number, so it goes first where both would do. */
    private void walkOrder(Arch built, int start) {
        int n = built.size;
        int i = start;
        int j = start;
        built.addToOrder(start);
        for (int steps = 1; steps < n; steps++) {
            if (canGrow(i - 1, j, n)) {
                i--;
                built.addToOrder(i);
            } else {
                j++;
                built.addToOrder(j);
            }
        }
    }

    private boolean canGrow(int i, int j, int n) {
        return i >= 0 && j >= i && j < n && n <= MAX_PLACES && grows[i * MAX_PLACES + j];
    }

    /** Never 0, so that it can divide. Two longs need less than a hundred steps. */
    private static long commonDivisor(long one, long other) {
        long a = Math.abs(one);
        long b = Math.abs(other);
        for (int step = 0; step < 100 && b != 0; step++) {
            long rest = a % b;
            a = b;
            b = rest;
        }
        return a < 1 ? 1 : a;
    }

    /** Rows of numbers in one array; a missing row has the size NONE. */
    private static final class Rack {
        private static final int ROWS = 40;
        private static final int LONGEST = 40;

        private final boolean isShort;
        private final int[] sizes = new int[ROWS];
        private final int[] numbers = new int[ROWS * LONGEST];

        Rack(boolean isShort) {
            this.isShort = isShort;
            for (int k = 0; k < ROWS; k++) {
                sizes[k] = NONE;
            }
        }

        int sizeOf(int k) {
            return k >= 0 && k < ROWS ? sizes[k] : NONE;
        }

        void lay(int k, int n) {
            if (k < 0 || k >= ROWS || n < 0 || n > LONGEST) {
                return;
            }
            sizes[k] = n;
            for (int i = 0; i < LONGEST; i++) {
                numbers[k * LONGEST + i] = 0;
            }
        }

        int exchange(int k, int i, int v) {
            if (i < 0 || i >= LONGEST || i >= sizeOf(k)) {
                return NO_NUMBER;
            }
            int at = k * LONGEST + i;
            int old = numbers[at];
            numbers[at] = isShort ? (short) v : v;
            return old;
        }

        boolean cut(int k, int n) {
            if (n < 0 || n > sizeOf(k)) {
                return false;
            }
            sizes[k] = n;
            return true;
        }

        int[] copyOf(int k) {
            int size = Math.max(0, sizeOf(k));
            int[] copy = new int[size];
            for (int i = 0; i < size; i++) {
                copy[i] = numbers[k * LONGEST + i];
            }
            return copy;
        }
    }

    /** Questions about points that lie in an array as x, y, x, y; a face goes from point i to the next. */
    private static final class Shape {
        private static int pointsOf(int[] points) {
            return points.length / 2;
        }

        private static int xOf(int[] points, int i) {
            int n = points.length / 2;
            return n < 1 || i < 0 ? 0 : points[2 * (i % n)];
        }

        private static int yOf(int[] points, int i) {
            int n = points.length / 2;
            return n < 1 || i < 0 ? 0 : points[2 * (i % n) + 1];
        }

        static boolean isNear(int[] points) {
            for (int i = 0; i < points.length; i++) {
                if (isFar(points[i], FARTHEST)) {
                    return false;
                }
            }
            return true;
        }

        static boolean isSound(int[] points) {
            int n = pointsOf(points);
            for (int i = 0; i < n; i++) {
                if (hasNoLength(points, i) || foldsBack(points, i)) {
                    return false;
                }
                for (int j = i + 2; j < n; j++) {
                    boolean neighbours = i == 0 && j == n - 1;
                    if (!neighbours && meet(points, i, j)) {
                        return false;
                    }
                }
            }
            return twiceArea(points) > 0;
        }

        private static boolean hasNoLength(int[] points, int i) {
            return xOf(points, i) == xOf(points, i + 1) && yOf(points, i) == yOf(points, i + 1);
        }

        /** Only a face that turns right back has more than its corner in common with the next. */
        private static boolean foldsBack(int[] points, int i) {
            int ux = xOf(points, i + 1) - xOf(points, i);
            int uy = yOf(points, i + 1) - yOf(points, i);
            int wx = xOf(points, i + 2) - xOf(points, i + 1);
            int wy = yOf(points, i + 2) - yOf(points, i + 1);
            return ux * wy - uy * wx == 0 && ux * wx + uy * wy < 0;
        }

        private static boolean meet(int[] points, int i, int j) {
            int a = sideOf(points, i, j);
            int b = sideOf(points, i, j + 1);
            int c = sideOf(points, j, i);
            int d = sideOf(points, j, i + 1);
            if (a * b < 0 && c * d < 0) {
                return true;
            }
            return a == 0 && isBeside(points, i, j) || b == 0 && isBeside(points, i, j + 1)
                    || c == 0 && isBeside(points, j, i) || d == 0 && isBeside(points, j, i + 1);
        }

        /** 1 if the point lies to the left of the face, -1 to the right, 0 on its line. */
        private static int sideOf(int[] points, int face, int point) {
            int ax = xOf(points, face);
            int ay = yOf(points, face);
            int turn = (xOf(points, face + 1) - ax) * (yOf(points, point) - ay)
                    - (yOf(points, face + 1) - ay) * (xOf(points, point) - ax);
            return Integer.compare(turn, 0);
        }

        /** Whether a point on the face's line is on the face itself. */
        private static boolean isBeside(int[] points, int face, int point) {
            return isBetween(xOf(points, point), xOf(points, face), xOf(points, face + 1))
                    && isBetween(yOf(points, point), yOf(points, face), yOf(points, face + 1));
        }

        private static boolean isBetween(int v, int a, int b) {
            return v >= Math.min(a, b) && v <= Math.max(a, b);
        }

        private static int turnAt(int[] points, int i) {
            return xOf(points, i) * yOf(points, i + 1) - xOf(points, i + 1) * yOf(points, i);
        }

        static int twiceArea(int[] points) {
            int sum = 0;
            for (int i = 0; i < pointsOf(points); i++) {
                sum += turnAt(points, i);
            }
            return sum;
        }

        /** Six times the area times the x of the middle. */
        static int momentOfX(int[] points) {
            int sum = 0;
            for (int i = 0; i < pointsOf(points); i++) {
                sum += (xOf(points, i) + xOf(points, i + 1)) * turnAt(points, i);
            }
            return sum;
        }

        static int momentOfY(int[] points) {
            int sum = 0;
            for (int i = 0; i < pointsOf(points); i++) {
                sum += (yOf(points, i) + yOf(points, i + 1)) * turnAt(points, i);
            }
            return sum;
        }

        /** A pier's two points make one face, since the way back is none of its own. */
        private static int facesOf(int[] points) {
            int n = pointsOf(points);
            return n == 2 ? 1 : n;
        }

        static boolean findSpan(int[] left, int[] right, int[] spans, int at) {
            for (int i = 0; i < facesOf(left); i++) {
                for (int j = 0; j < facesOf(right); j++) {
                    if (share(left, i, right, j, spans, at)) {
                        return true;
                    }
                }
            }
            return false;
        }

        /** Writes the common span of two faces, told along the left one's way, if they have one. */
        private static boolean share(int[] left, int i, int[] right, int j, int[] spans, int at) {
            int px = xOf(left, i);
            int py = yOf(left, i);
            int ux = xOf(left, i + 1) - px;
            int uy = yOf(left, i + 1) - py;
            int rx = xOf(right, j) - px;
            int ry = yOf(right, j) - py;
            int sx = xOf(right, j + 1) - px;
            int sy = yOf(right, j + 1) - py;
            if (ux * ry - uy * rx != 0 || ux * sy - uy * sx != 0) {
                return false;
            }
            int length = ux * ux + uy * uy;
            int start = ux * sx + uy * sy;
            int end = ux * rx + uy * ry;
            boolean opposite = start < end;
            if (!opposite || Math.max(start, 0) >= Math.min(end, length)) {
                return false;
            }
            if (at < 0 || at > spans.length - 4) {
                return false;
            }
            spans[at] = px + (start > 0 ? sx : 0);
            spans[at + 1] = py + (start > 0 ? sy : 0);
            spans[at + 2] = px + (end < length ? rx : ux);
            spans[at + 3] = py + (end < length ? ry : uy);
            return true;
        }
    }

    private static final class Stone {
        private static final int FACTS_BEFORE_CORNERS = 9;

        private final int kind;
        private final int[] corners;
        private final int area;
        private final int weight;
        private final int spot;
        private final int middleXUpper;
        private final int middleXLower;
        private final int middleYUpper;
        private final int middleYLower;

        Stone(int kind, int part, int[] corners) {
            this.kind = kind;
            this.corners = corners;
            area = Math.max(1, Shape.twiceArea(corners));
            weight = weightOf(kind, part, area);
            int x = Shape.momentOfX(corners);
            int y = Shape.momentOfY(corners);
            int lower = 3 * area;
            int commonX = (int) commonDivisor(x, lower);
            int commonY = (int) commonDivisor(y, lower);
            middleXUpper = commonX == 0 ? x : x / commonX;
            middleXLower = commonX == 0 ? lower : lower / commonX;
            middleYUpper = commonY == 0 ? y : y / commonY;
            middleYLower = commonY == 0 ? lower : lower / commonY;
            spot = lower == 0 ? 0 : (int) (10L * x / lower);
        }

        static boolean mayBe(int kind, int part) {
            if (kind < 0 || kind > HOLLOW) {
                return false;
            }
            return kind == HOLLOW ? part >= 0 && part <= 99 : part == 0;
        }

        private static float densityOf(int kind) {
            switch (kind) {
                case KEY:
                    return 2.75f;
                case FILLED:
                case HOLLOW:
                    return 1.625f;
                default:
                    return 2.5f;
            }
        }

        private static int weightOf(int kind, int part, int area) {
            int full = (int) ((float) area * densityOf(kind));
            return full - full * part / 100;
        }

        boolean isFilled() {
            return kind == FILLED || kind == HOLLOW;
        }

        boolean spans(int tenths) {
            int least = FARTHEST;
            int greatest = -FARTHEST;
            for (int i = 0; i < corners.length; i += 2) {
                least = Math.min(least, corners[i]);
                greatest = Math.max(greatest, corners[i]);
            }
            return tenths >= 10 * least && tenths <= 10 * greatest;
        }

        int facts() {
            return FACTS_BEFORE_CORNERS + corners.length;
        }

        int fact(int what) {
            switch (what) {
                case 0:
                    return kind;
                case 1:
                    return corners.length / 2;
                case 2:
                    return area;
                case 3:
                    return weight;
                case 4:
                    return spot;
                case 5:
                    return middleXUpper;
                case 6:
                    return middleXLower;
                case 7:
                    return middleYUpper;
                case 8:
                    return middleYLower;
                default:
                    return cornerNumber(what - FACTS_BEFORE_CORNERS);
            }
        }

        private int cornerNumber(int i) {
            return i >= 0 && i < corners.length ? corners[i] : 0;
        }
    }

    private static final class Arch {
        private final int size;
        private final int[] standing;
        private final Stone[] blocks;
        private final int[] leftPier = new int[4];
        private final int[] rightPier = new int[4];
        private final int[] loadPlaces = new int[MAX_LOADS];
        private final int[] loadSpots = new int[MAX_LOADS];
        private final int[] loadGrains = new int[MAX_LOADS];
        private final int[] spans;
        private final boolean[] shared;
        private final int[] sequence;
        private boolean isLeftTold;
        private boolean isRightTold;
        private int loadCount;
        private int slopeUp = 1;
        private int slopeOver = 2;
        private boolean areSpansKnown;
        private boolean isSequenceKnown;
        private int sequenceLength;

        /** The size is 1 to 10, looked at before. */
        Arch(int size) {
            this.size = Math.max(1, Math.min(MAX_PLACES, size));
            standing = new int[this.size];
            blocks = new Stone[this.size];
            spans = new int[4 * (this.size + 1)];
            shared = new boolean[this.size + 1];
            sequence = new int[this.size];
            for (int p = 0; p < this.size; p++) {
                standing[p] = NONE;
            }
        }

        boolean hasPlace(int p) {
            return p >= 0 && p < size;
        }

        int standing(int p) {
            return hasPlace(p) ? standing[p] : NONE;
        }

        Stone blockAt(int p) {
            return p >= 0 && p < size ? blocks[p] : null;
        }

        void set(int p, int number, Stone stone) {
            if (hasPlace(p)) {
                standing[p] = number;
                blocks[p] = stone;
                forgetFindings();
            }
        }

        void empty(int p, int what) {
            set(p, what, null);
            int kept = 0;
            for (int i = 0; i < loadCount && i < MAX_LOADS; i++) {
                if (loadPlaces[i] != p) {
                    loadPlaces[kept] = loadPlaces[i];
                    loadSpots[kept] = loadSpots[i];
                    loadGrains[kept] = loadGrains[i];
                    kept++;
                }
            }
            loadCount = kept;
        }

        void raisePier(int side, int x1, int y1, int x2, int y2) {
            int[] pier = side == 0 ? leftPier : rightPier;
            pier[0] = x1;
            pier[1] = y1;
            pier[2] = x2;
            pier[3] = y2;
            if (side == 0) {
                isLeftTold = true;
            } else {
                isRightTold = true;
            }
            forgetFindings();
        }

        int burden(int p, int spot, int grains) {
            Stone stone = blockAt(p);
            if (stone == null || loadCount >= MAX_LOADS || !stone.spans(spot)) {
                return NONE;
            }
            loadPlaces[loadCount] = p;
            loadSpots[loadCount] = spot;
            loadGrains[loadCount] = grains;
            loadCount++;
            return loadCount;
        }

        void lean(int up, int over) {
            slopeUp = up;
            slopeOver = over;
            forgetFindings();
        }

        private void forgetFindings() {
            areSpansKnown = false;
            isSequenceKnown = false;
        }

        int fault() {
            for (int p = 0; p < size; p++) {
                if (!mayStand(p)) {
                    return p;
                }
            }
            if (!isLeftTold) {
                return 100;
            }
            if (!isRightTold) {
                return 101;
            }
            findSpans();
            for (int k = 0; k <= size; k++) {
                if (!shared[k]) {
                    return 200 + k;
                }
            }
            return NONE;
        }

        private boolean mayStand(int p) {
            Stone stone = blockAt(p);
            if (stone == null) {
                return false;
            }
            if (stone.kind == KEY) {
                return blockAt(p - 1) != null && blockAt(p + 1) != null;
            }
            return stone.kind != SPRINGER || p == 0 || p == size - 1;
        }

        boolean hasSpan(int k) {
            findSpans();
            return k >= 0 && k < shared.length && shared[k];
        }

        int span(int k, int what) {
            int at = 4 * k + what;
            return at >= 0 && at < spans.length ? spans[at] : 0;
        }

        private void findSpans() {
            if (areSpansKnown) {
                return;
            }
            for (int k = 0; k <= size; k++) {
                int[] left = pointsBefore(k);
                int[] right = pointsAfter(k);
                shared[k] = left != null && right != null && Shape.findSpan(left, right, spans, 4 * k);
            }
            areSpansKnown = true;
        }

        private int[] pointsBefore(int k) {
            if (k == 0) {
                return isLeftTold ? leftPier : null;
            }
            Stone stone = blockAt(k - 1);
            return stone == null ? null : stone.corners;
        }

        private int[] pointsAfter(int k) {
            if (k == size) {
                return isRightTold ? rightPier : null;
            }
            Stone stone = blockAt(k);
            return stone == null ? null : stone.corners;
        }

        boolean isAtFilled(int k) {
            Stone left = blockAt(k - 1);
            Stone right = blockAt(k);
            return left != null && left.isFilled() || right != null && right.isFilled();
        }

        boolean isSpringing(int k) {
            if (k != 0 && k != size) {
                return false;
            }
            Stone beside = blockAt(k == 0 ? 0 : k - 1);
            return beside != null && beside.kind == SPRINGER;
        }

        boolean isOrderKnown() {
            return isSequenceKnown;
        }

        void clearOrder() {
            isSequenceKnown = true;
            sequenceLength = 0;
        }

        void addToOrder(int p) {
            if (sequenceLength < sequence.length) {
                sequence[sequenceLength] = p;
                sequenceLength++;
            }
        }

        int ordered(int k) {
            return k >= 0 && k < sequenceLength && k < sequence.length ? sequence[k] : NONE;
        }
    }

    /** Bounds as whole numbers times h, v, m and 1, in the document's order. */
    private static final class Bounds {
        /** Four for each of eleven joints, and four of the frame that all lines keep within. */
        private static final int LIMIT = 4 * (MAX_PLACES + 2);

        private final long[] timesH = new long[LIMIT];
        private final long[] timesV = new long[LIMIT];
        private final long[] timesM = new long[LIMIT];
        private final long[] alone = new long[LIMIT];
        private final int[] codes = new int[LIMIT];
        private int size;
        private long weightAhead;
        private long turnAhead;

        void gather(Arch arch, boolean withSlopes) {
            begin();
            for (int k = 0; k <= arch.size; k++) {
                addMoments(arch, k);
                if (withSlopes) {
                    addSlopes(arch, k);
                }
                passStone(arch, k);
                passLoads(arch, k);
            }
            addFrame(arch.size + 1);
        }

        /** Moving by a 64th of half a way is a 128th of the way, or a 256th of it at a filled stone. */
        void gatherNarrowed(Arch arch, int step) {
            begin();
            for (int k = 0; k <= arch.size; k++) {
                boolean filled = arch.isAtFilled(k);
                addMomentsAt(arch, k, (filled ? 192 : 128) - step, (filled ? 64 : 0) + step);
                passStone(arch, k);
                passLoads(arch, k);
            }
            addFrame(arch.size + 1);
        }

        void gatherRow(Arch arch, int first, int last) {
            begin();
            for (int k = first; k <= last + 1; k++) {
                addMoments(arch, k);
                addSlopes(arch, k);
                passStone(arch, k);
            }
            addFrame(last + 2);
        }

        private void begin() {
            size = 0;
            weightAhead = 0;
            turnAhead = 0;
        }

        private void passStone(Arch arch, int p) {
            Stone stone = arch.blockAt(p);
            if (stone != null) {
                pass(stone.weight, stone.spot);
            }
        }

        private void passLoads(Arch arch, int p) {
            for (int i = 0; i < arch.loadCount && i < MAX_LOADS; i++) {
                if (arch.loadPlaces[i] == p) {
                    pass(arch.loadGrains[i], arch.loadSpots[i]);
                }
            }
        }

        private void pass(long grains, long spot) {
            weightAhead += grains;
            turnAhead += grains * spot;
        }

        private void addMoments(Arch arch, int k) {
            if (arch.isAtFilled(k)) {
                addMomentsAt(arch, k, 3, 1);
            } else {
                addMomentsAt(arch, k, 1, 0);
            }
        }

        /** Each point is a mean of A and B, near parts of its own end and far parts of the other. */
        private void addMomentsAt(Arch arch, int k, long near, long far) {
            long parts = near + far;
            long x = near * arch.span(k, 0) + far * arch.span(k, 2);
            long y = near * arch.span(k, 1) + far * arch.span(k, 3);
            add(4 * k, -10 * y, 10 * x, -parts, parts * turnAhead - 10 * x * weightAhead);
            x = far * arch.span(k, 0) + near * arch.span(k, 2);
            y = far * arch.span(k, 1) + near * arch.span(k, 3);
            add(4 * k + 1, 10 * y, -10 * x, parts, 10 * x * weightAhead - parts * turnAhead);
        }

        private void addSlopes(Arch arch, int k) {
            if (arch.isSpringing(k)) {
                return;
            }
            long dx = arch.span(k, 2) - arch.span(k, 0);
            long dy = arch.span(k, 3) - arch.span(k, 1);
            long p = arch.slopeUp;
            long q = arch.slopeOver;
            long v = -p * dx - q * dy;
            add(4 * k + 2, p * dy - q * dx, v, 0, -v * weightAhead);
            v = -p * dx + q * dy;
            add(4 * k + 3, p * dy + q * dx, v, 0, -v * weightAhead);
        }

        private void addFrame(int k) {
            add(4 * k, 1, 0, 0, 0);
            add(4 * k + 1, -1, 0, 0, LINE_LIMIT);
            add(4 * k + 2, 0, 1, 0, LINE_LIMIT);
            add(4 * k + 3, 0, -1, 0, LINE_LIMIT);
        }

        private void add(int code, long h, long v, long m, long rest) {
            if (size >= LIMIT) {
                return;
            }
            codes[size] = code;
            timesH[size] = h;
            timesV[size] = v;
            timesM[size] = m;
            alone[size] = rest;
            size++;
        }

        /** At most some 10^13, so that a long holds it. */
        int firstBelow(long h, long v, long m) {
            for (int i = 0; i < size && i < LIMIT; i++) {
                if (timesH[i] * h + timesV[i] * v + timesM[i] * m + alone[i] < 0) {
                    return codes[i];
                }
            }
            return NONE;
        }

        int codeAt(int i) {
            return i >= 0 && i < size && i < LIMIT ? codes[i] : NONE;
        }
    }

    /**
     * A corner of the space of lines, where three bounds are 0. It starts as the lowest corner of three
     * bounds and climbs: a bound that it breaks takes the place of one of the three, so that it is the
     * lowest corner of the four. Lowest is by h (or less h), then v, then m, so no corner comes twice.
     */
    private static final class Corner {
        /** More than the ways to choose three of 48 bounds. */
        private static final int MOST_STEPS = 20000;

        private final int[] base = new int[3];
        /** Edge i, where base bound i alone grows, at 3 i: its h, v, m, for base bound i growing by volume. */
        private final long[] edges = new long[9];
        private final long[] parts = new long[3];
        private final Wide value = new Wide();
        private long volume;

        boolean seek(Bounds bounds, boolean greatest) {
            if (bounds.size < 6 || bounds.size > Bounds.LIMIT) {
                return false;
            }
            base[0] = bounds.size - (greatest ? 3 : 4);
            base[1] = bounds.size - 2;
            base[2] = 1;
            findEdges(bounds);
            for (int step = 0; step < MOST_STEPS; step++) {
                int broken = firstBroken(bounds);
                if (broken == NONE) {
                    return true;
                }
                if (!takeIn(bounds, broken, greatest)) {
                    return false;
                }
            }
            return false;
        }

        private int firstBroken(Bounds bounds) {
            for (int i = 0; i < bounds.size && i < Bounds.LIMIT; i++) {
                weighBound(bounds, i);
                if (value.sign() < 0) {
                    return i;
                }
            }
            return NONE;
        }

        /** Tells the bound as parts of the base's bounds, and its value at the corner, all times volume. */
        private void weighBound(Bounds bounds, int i) {
            value.clear();
            value.addProduct(bounds.alone[i], volume);
            for (int e = 0; e < 3; e++) {
                parts[e] = bounds.timesH[i] * edges[3 * e] + bounds.timesV[i] * edges[3 * e + 1]
                        + bounds.timesM[i] * edges[3 * e + 2];
                value.addProduct(-parts[e], bounds.alone[base[e]]);
            }
        }

        /** False if the broken bound cannot grow where the base's bounds are kept: then no line keeps all. */
        private boolean takeIn(Bounds bounds, int broken, boolean greatest) {
            for (int e = 0; e < 3; e++) {
                if (parts[e] > 0) {
                    int left = base[e];
                    base[e] = broken;
                    findEdges(bounds);
                    if (isLowest(greatest)) {
                        return true;
                    }
                    base[e] = left;
                }
            }
            return false;
        }

        private boolean isLowest(boolean greatest) {
            for (int e = 0; e < 3; e++) {
                long h = greatest ? -edges[3 * e] : edges[3 * e];
                long v = edges[3 * e + 1];
                long first = h != 0 ? h : v != 0 ? v : edges[3 * e + 2];
                if (first <= 0) {
                    return false;
                }
            }
            return volume > 0;
        }

        private void findEdges(Bounds bounds) {
            findEdge(bounds, 0, base[1], base[2]);
            findEdge(bounds, 1, base[2], base[0]);
            findEdge(bounds, 2, base[0], base[1]);
            int i = base[0];
            volume = bounds.timesH[i] * edges[0] + bounds.timesV[i] * edges[1] + bounds.timesM[i] * edges[2];
            if (volume < 0) {
                volume = -volume;
                for (int t = 0; t < 9; t++) {
                    edges[t] = -edges[t];
                }
            }
        }

        private void findEdge(Bounds bounds, int e, int i, int j) {
            long[] h = bounds.timesH;
            long[] v = bounds.timesV;
            long[] m = bounds.timesM;
            edges[3 * e] = v[i] * m[j] - m[i] * v[j];
            edges[3 * e + 1] = m[i] * h[j] - h[i] * m[j];
            edges[3 * e + 2] = h[i] * v[j] - v[i] * h[j];
        }

        void report(Bounds bounds, Verdict verdict, int which) {
            verdict.beginLine(which, volume);
            for (int t = 0; t < 3; t++) {
                value.clear();
                for (int e = 0; e < 3; e++) {
                    value.addProduct(-edges[3 * e + t], bounds.alone[base[e]]);
                }
                verdict.keepNumber(3 * which + t, value);
            }
            for (int i = 0; i < bounds.size && i < Bounds.LIMIT; i++) {
                weighBound(bounds, i);
                if (value.sign() == 0) {
                    verdict.keepTouched(which, bounds.codeAt(i));
                }
            }
        }
    }

    /** Looks for the first smallest set of bounds that no line keeps together. */
    private static final class Never {
        private static final int LIMIT = Bounds.LIMIT;

        private final int[] picked = new int[4];
        private final long[] weights = new long[4];
        /** For one first bound i: the volume of i, j, k at j * LIMIT + k. */
        private final long[] volumes = new long[LIMIT * LIMIT];
        private final Wide left = new Wide();
        private int size;
        private long crossH;
        private long crossV;
        private long crossM;

        void search(Bounds bounds) {
            size = 0;
            if (bounds.size > LIMIT) {
                return;
            }
            if (findTwo(bounds)) {
                size = 2;
            } else if (findThree(bounds)) {
                size = 3;
            } else if (findFour(bounds)) {
                size = 4;
            }
        }

        void report(Bounds bounds, Verdict verdict) {
            verdict.beginNever(left);
            for (int i = 0; i < size && i < 4; i++) {
                verdict.keepNever(bounds.codeAt(picked[i]), weights[i]);
            }
        }

        private void cross(Bounds bounds, int i, int j) {
            long[] h = bounds.timesH;
            long[] v = bounds.timesV;
            long[] m = bounds.timesM;
            crossH = v[i] * m[j] - m[i] * v[j];
            crossV = m[i] * h[j] - h[i] * m[j];
            crossM = h[i] * v[j] - v[i] * h[j];
        }

        private long volumeWith(Bounds bounds, int i) {
            return crossH * bounds.timesH[i] + crossV * bounds.timesV[i] + crossM * bounds.timesM[i];
        }

        private boolean isCrossNothing() {
            return crossH == 0 && crossV == 0 && crossM == 0;
        }

        private boolean findTwo(Bounds bounds) {
            for (int i = 0; i < bounds.size; i++) {
                for (int j = i + 1; j < bounds.size; j++) {
                    cross(bounds, i, j);
                    if (isCrossNothing() && clashTwo(bounds, i, j)) {
                        return true;
                    }
                }
            }
            return false;
        }

        /** For two bounds that have one direction: what makes any part of it vanish makes all vanish. */
        private boolean clashTwo(Bounds bounds, int i, int j) {
            long one = bounds.timesH[i];
            long other = bounds.timesH[j];
            if (one == 0) {
                one = bounds.timesV[i];
                other = bounds.timesV[j];
            }
            if (one == 0) {
                one = bounds.timesM[i];
                other = bounds.timesM[j];
            }
            pick(0, i, other);
            pick(1, j, -one);
            return clash(bounds, 2);
        }

        private boolean findThree(Bounds bounds) {
            for (int i = 0; i < bounds.size; i++) {
                for (int j = i + 1; j < bounds.size; j++) {
                    cross(bounds, i, j);
                    if (!isCrossNothing() && findThird(bounds, i, j)) {
                        return true;
                    }
                }
            }
            return false;
        }

        private boolean findThird(Bounds bounds, int i, int j) {
            for (int k = j + 1; k < bounds.size; k++) {
                if (volumeWith(bounds, k) == 0) {
                    pickThree(bounds, i, j, k);
                    if (clash(bounds, 3)) {
                        return true;
                    }
                }
            }
            return false;
        }

        /** Three bounds in one plane: their crosses all lie along its normal, so one part of it tells all. */
        private void pickThree(Bounds bounds, int i, int j, int k) {
            long[] one = crossH != 0 || crossV != 0 ? bounds.timesM : bounds.timesH;
            long[] other = crossH != 0 ? bounds.timesV : crossV != 0 ? bounds.timesH : bounds.timesV;
            pick(0, i, one[j] * other[k] - other[j] * one[k]);
            pick(1, j, one[k] * other[i] - other[k] * one[i]);
            pick(2, k, one[i] * other[j] - other[i] * one[j]);
        }

        private boolean findFour(Bounds bounds) {
            for (int i = 0; i < bounds.size; i++) {
                findVolumes(bounds, i);
                for (int j = i + 1; j < bounds.size; j++) {
                    for (int k = j + 1; k < bounds.size; k++) {
                        if (volumes[j * LIMIT + k] != 0 && findFourth(bounds, i, j, k)) {
                            return true;
                        }
                    }
                }
            }
            return false;
        }

        private void findVolumes(Bounds bounds, int i) {
            for (int j = i + 1; j < bounds.size; j++) {
                cross(bounds, i, j);
                for (int k = j + 1; k < bounds.size; k++) {
                    volumes[j * LIMIT + k] = volumeWith(bounds, k);
                }
            }
        }

        private boolean findFourth(Bounds bounds, int i, int j, int k) {
            cross(bounds, j, k);
            long noL = volumes[j * LIMIT + k];
            for (int l = k + 1; l < bounds.size; l++) {
                long noK = volumes[j * LIMIT + l];
                long noJ = volumes[k * LIMIT + l];
                // Most sets fail by the signs of these two, which are known already.
                boolean hopeful = noL > 0 ? noK < 0 && noJ > 0 : noK > 0 && noJ < 0;
                if (hopeful) {
                    pick(0, i, volumeWith(bounds, l));
                    pick(1, j, -noJ);
                    pick(2, k, noK);
                    pick(3, l, -noL);
                    if (clash(bounds, 4)) {
                        return true;
                    }
                }
            }
            return false;
        }

        private void pick(int at, int bound, long weight) {
            if (at >= 0 && at < 4) {
                picked[at] = bound;
                weights[at] = weight;
            }
        }

        /** The weights make h, v and m go away; they clash if all have one sign and less than 0 is left. */
        private boolean clash(Bounds bounds, int many) {
            if (many > 4 || !turnAboveZero(many)) {
                return false;
            }
            findLeft(bounds, many);
            if (left.sign() >= 0) {
                return false;
            }
            long common = 0;
            for (int i = 0; i < many; i++) {
                common = commonDivisor(common, weights[i]);
            }
            for (int i = 0; i < many; i++) {
                weights[i] = common == 0 ? weights[i] : weights[i] / common;
            }
            findLeft(bounds, many);
            return true;
        }

        private boolean turnAboveZero(int many) {
            boolean isAbove = weights[0] > 0;
            for (int i = 0; i < many && i < 4; i++) {
                if (weights[i] == 0 || weights[i] > 0 != isAbove) {
                    return false;
                }
                weights[i] = Math.abs(weights[i]);
            }
            return true;
        }

        private void findLeft(Bounds bounds, int many) {
            left.clear();
            for (int i = 0; i < many && i < 4; i++) {
                left.addProduct(weights[i], bounds.alone[picked[i]]);
            }
        }
    }

    /** What was found of the arch judged last. */
    private static final class Verdict {
        private static final int LEAST = 0;
        private static final int GREATEST = 1;
        private static final int NUMBERS = 6;
        private static final int WHAT_IS_LEFT = 4;

        private final long[] upperHigh = new long[NUMBERS];
        private final long[] upperLow = new long[NUMBERS];
        private final long[] lowers = new long[2];
        private final int[] touched = new int[2 * Bounds.LIMIT];
        private final int[] touchedCounts = new int[2];
        private final int[] neverCodes = new int[4];
        private final long[] neverWeights = new long[4];
        private final Wide left = new Wide();
        private int neverCount;
        private boolean isSafe;

        boolean isSafe() {
            return isSafe;
        }

        void beginLine(int which, long lower) {
            if (which != LEAST && which != GREATEST) {
                return;
            }
            isSafe = true;
            neverCount = 0;
            lowers[which] = lower;
            touchedCounts[which] = 0;
        }

        void keepNumber(int what, Wide upper) {
            if (what >= 0 && what < NUMBERS) {
                upperHigh[what] = upper.high;
                upperLow[what] = upper.low;
            }
        }

        void keepTouched(int which, int code) {
            if (which != LEAST && which != GREATEST) {
                return;
            }
            int many = touchedCounts[which];
            if (many >= 0 && many < Bounds.LIMIT) {
                touched[which * Bounds.LIMIT + many] = code;
                touchedCounts[which] = many + 1;
            }
        }

        void beginNever(Wide whatIsLeft) {
            isSafe = false;
            touchedCounts[LEAST] = 0;
            touchedCounts[GREATEST] = 0;
            neverCount = 0;
            left.set(whatIsLeft.high, whatIsLeft.low);
        }

        void keepNever(int code, long weight) {
            if (neverCount < 4) {
                neverCodes[neverCount] = code;
                neverWeights[neverCount] = weight;
                neverCount++;
            }
        }

        int boundAt(int which, int k) {
            if (which == LEAST || which == GREATEST) {
                boolean isThere = k >= 0 && k < touchedCounts[which] && k < Bounds.LIMIT;
                return isThere ? touched[which * Bounds.LIMIT + k] : NONE;
            }
            return which == 2 && k >= 0 && k < neverCount && k < 4 ? neverCodes[k] : NONE;
        }

        int writeNumber(int what, Page page) {
            if (what < 0 || what >= NUMBERS) {
                return NONE;
            }
            return page.write(upperHigh[what], upperLow[what], lowers[what / 3]);
        }

        int writeWeight(int k, Page page) {
            if (k == WHAT_IS_LEFT && neverCount > 0) {
                return page.write(left.high, left.low, 1);
            }
            if (k < 0 || k >= neverCount || k >= 4) {
                return NONE;
            }
            return page.write(0, neverWeights[k], 1);
        }
    }

    /** The bytes of the number that was asked for last. */
    private static final class Page {
        /** A sign, two numbers of at most 39 digits each and the stroke between them. */
        private static final int LIMIT = 80;

        private final byte[] bytes = new byte[LIMIT];
        private final byte[] digits = new byte[LIMIT];
        private final Wide number = new Wide();
        private int length;

        int length() {
            return length;
        }

        int byteAt(int k) {
            return k >= 0 && k < length && k < LIMIT ? bytes[k] : NONE;
        }

        int write(long upperHigh, long upperLow, long lower) {
            length = 0;
            number.set(upperHigh, upperLow);
            if (number.sign() < 0) {
                add('-');
                number.negate();
            }
            long high = number.high;
            long low = number.low;
            long common = commonDivisor(lower, number.divide(lower));
            number.set(high, low);
            number.divide(common);
            addDigits();
            long lowest = common == 0 ? lower : lower / common;
            if (lowest != 1) {
                add('/');
                number.set(0, lowest);
                addDigits();
            }
            return length;
        }

        private void addDigits() {
            int many = 0;
            do {
                digits[many] = (byte) ('0' + number.divide(10));
                many++;
            } while (number.sign() != 0 && many < LIMIT);
            for (int i = many - 1; i >= 0; i--) {
                add(digits[i]);
            }
        }

        private void add(int sign) {
            if (length < LIMIT) {
                bytes[length] = (byte) sign;
                length++;
            }
        }
    }

    /**
     * A whole number of 128 bits. The widest ones are values of bounds at corners of narrowed joints, below
     * 2 to the 90th; what a sum passes on its way may wrap round, since its end does not.
     */
    private static final class Wide {
        private static final long LOWER_HALF = 0xFFFFFFFFL;
        private static final long TOP_BIT = 1L << 63;
        private static final long GREATEST_DIVISOR = 1L << 31;

        private long high;
        private long low;

        void clear() {
            high = 0;
            low = 0;
        }

        void set(long newHigh, long newLow) {
            high = newHigh;
            low = newLow;
        }

        int sign() {
            if (high == 0) {
                return low == 0 ? 0 : 1;
            }
            return high < 0 ? -1 : 1;
        }

        void negate() {
            high = low == 0 ? -high : ~high;
            low = -low;
        }

        void addProduct(long a, long b) {
            long aHigh = a >> 32;
            long aLow = a & LOWER_HALF;
            long bHigh = b >> 32;
            long bLow = b & LOWER_HALF;
            long middle = aHigh * bLow + (aLow * bLow >>> 32);
            long other = aLow * bHigh + (middle & LOWER_HALF);
            high += aHigh * bHigh + (middle >> 32) + (other >> 32);
            long product = a * b;
            low += product;
            boolean carries = (low ^ TOP_BIT) < (product ^ TOP_BIT);
            high += carries ? 1 : 0;
        }

        /** For a number that is not below 0, in pieces of 32 bits: what is left over. */
        long divide(long divisor) {
            if (divisor < 1 || divisor > GREATEST_DIVISOR) {
                return 0;
            }
            long first = high >>> 32;
            long second = first % divisor << 32 | high & LOWER_HALF;
            long third = second % divisor << 32 | low >>> 32;
            long fourth = third % divisor << 32 | low & LOWER_HALF;
            high = first / divisor << 32 | second / divisor;
            low = third / divisor << 32 | fourth / divisor;
            return fourth % divisor;
        }
    }
}
