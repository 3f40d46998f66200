import java.util.Random;

/** Arches of all sorts, told to twins: rings, beams and rubble, with joints that may be longer than shared. */
public final class RandomArches {
    private final Random random;
    private final Twins twins;
    private int[][] inner;
    private int[][] outer;

    public RandomArches(Random random, Twins twins) {
        this.random = random;
        this.twins = twins;
    }

    /** Builds an arch of n places; its number is that of the arches before it. */
    public void build(int arch, int n) {
        int style = random.nextInt(6);
        int thinness = random.nextInt(20);
        inner = new int[n + 1][2];
        outer = new int[n + 1][2];
        for (int k = 0; k <= n; k++) {
            if (style == 0) ringJoint(k, n, 70, 95);
            if (style == 1) beamJoint(k);
            if (style == 2) rubbleJoint(k, n);
            if (style == 3) ringJoint(k, n, 40 + random.nextInt(30), 72 + random.nextInt(28));
            if (style == 4) ringJoint(k, n, 70 + thinness, 95);
            if (style == 5) tallJoint(k, n);
        }
        twins.ask("arch", n);
        if (random.nextInt(3) == 0) twins.ask("slope", arch, random.nextInt(21), 1 + random.nextInt(20));
        if (random.nextInt(6) == 0) twins.ask("slope", arch, random.nextInt(2), 1 + random.nextInt(20));
        for (int p = 0; p < n; p++) buildStone(arch, p, n);
        buildPiers(arch, n);
    }

    private void ringJoint(int k, int n, int from, int to) {
        double turn = Math.PI * (n - k) / n;
        int wobble = random.nextInt(4) == 0 ? random.nextInt(5) - 2 : 0;
        inner[k] = new int[] {(int) Math.round(from * Math.cos(turn)), (int) Math.round(from * Math.sin(turn)) + wobble};
        outer[k] = new int[] {(int) Math.round(to * Math.cos(turn)), (int) Math.round(to * Math.sin(turn))};
    }

    private void beamJoint(int k) {
        int x = -90 + 17 * k + random.nextInt(5);
        int y = random.nextInt(10) - 5;
        inner[k] = new int[] {x, y};
        outer[k] = new int[] {x + (random.nextInt(3) == 0 ? random.nextInt(7) - 3 : 0), y + 10 + random.nextInt(20)};
    }

    private void rubbleJoint(int k, int n) {
        int step = 180 / n;
        int x = -90 + step * k + random.nextInt(Math.max(1, step / 2));
        inner[k] = new int[] {x, random.nextInt(60) - 50};
        outer[k] = new int[] {x + random.nextInt(step) - step / 2, inner[k][1] + 5 + random.nextInt(40)};
    }

    /** As far out as stones may be, so that weights and moments are as great as they get. */
    private void tallJoint(int k, int n) {
        int x = -100 + 200 * k / n;
        inner[k] = new int[] {x, -100 + random.nextInt(random.nextBoolean() ? 4 : 150)};
        int height = 1 + random.nextInt(100 - inner[k][1]);
        int lean = random.nextInt(3) == 0 ? random.nextInt(9) - 4 : 0;
        outer[k] = new int[] {Math.max(-100, Math.min(100, x + lean)), inner[k][1] + height};
    }

    private int kindFor(int p, int n) {
        int roll = random.nextInt(12);
        if (roll == 0) return 1;
        if (roll == 1 || roll == 2 && (p == 0 || p == n - 1)) return 2;
        if (roll == 3 || roll == 4) return 3;
        return roll == 5 ? 4 : 0;
    }

    private void buildStone(int arch, int p, int n) {
        int kind = kindFor(p, n);
        if (kind == 1 && (p == 0 || p == n - 1) && random.nextInt(4) > 0) kind = 0;
        if (kind == 2 && p > 0 && p < n - 1 && random.nextInt(8) > 0) kind = 0;
        int[] top = random.nextInt(4) == 0 ? longer(inner[p + 1], outer[p + 1]) : outer[p + 1];
        if (!isNear(top) && random.nextInt(8) > 0) top = outer[p + 1];
        int[][] corners = {inner[p], inner[p + 1], top, outer[p]};
        int shift = random.nextInt(4);
        int rack = random.nextInt(2);
        int row = random.nextInt(40);
        twins.ask("row", rack, row, 8);
        for (int i = 0; i < 4; i++) {
            twins.ask("put", rack, row, 2 * i, corners[(i + shift) % 4][0]);
            twins.ask("put", rack, row, 2 * i + 1, corners[(i + shift) % 4][1]);
        }
        Integer stone = twins.ask("stone", kind, rack, row, kind == 4 ? random.nextInt(100) : 0);
        if (stone == null || stone < 0) return;
        twins.ask("place", arch, p, stone);
        int loads = random.nextInt(4) == 0 ? 1 + random.nextInt(2) : 0;
        for (int i = 0; i < loads; i++) {
            int x = 10 * inner[p][0] + random.nextInt(200);
            twins.ask("load", arch, p, x, random.nextInt(3) == 0 ? 1 + random.nextInt(100000) : 1 + random.nextInt(900));
        }
    }

    private int[] longer(int[] a, int[] b) {
        return new int[] {2 * b[0] - a[0], 2 * b[1] - a[1]};
    }

    private static boolean isNear(int[] point) {
        return Math.abs(point[0]) <= 100 && Math.abs(point[1]) <= 100;
    }

    private void buildPiers(int arch, int n) {
        int[] left = random.nextInt(3) == 0 ? longer(inner[0], outer[0]) : outer[0];
        int[] right = random.nextInt(3) == 0 ? longer(outer[n], inner[n]) : inner[n];
        if (!isNear(left)) left = outer[0];
        if (!isNear(right)) right = inner[n];
        twins.ask("pier", arch, 0, inner[0][0], inner[0][1], left[0], left[1]);
        twins.ask("pier", arch, 1, outer[n][0], outer[n][1], right[0], right[1]);
    }
}
