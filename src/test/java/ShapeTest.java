import java.util.Arrays;
import java.util.Comparator;
import java.util.Random;

/** Stones of few and many corners on a small grid, sound and unsound, and the joints that they share. */
public final class ShapeTest {
    private static int sound = 0;
    private static int joints = 0;

    public static void main(String[] args) {
        int seeds = args.length > 0 ? Integer.parseInt(args[0]) : 300;
        for (int seed = 0; seed < seeds; seed++) {
            Random random = new Random(seed);
            Twins twins = new Twins("shape " + seed);
            twins.ask("rack", seed % 2);
            int stones = 0;
            for (int i = 0; i < 60; i++) stones += makeStone(twins, random, stones) ? 1 : 0;
            sound += stones;
            if (stones > 0) askJoints(twins, random, stones);
        }
        System.out.println("sound " + sound + ", joints " + joints);
        System.exit(Twins.wrongAnswers() > 0 || sound == 0 || joints == 0 ? 1 : 0);
    }

    private static boolean makeStone(Twins twins, Random random, int stones) {
        int n = 3 + random.nextInt(random.nextInt(3) == 0 ? 10 : 3);
        int grid = 3 + random.nextInt(4);
        int step = random.nextInt(6) == 0 ? 25 : 1;
        int[][] corners = new int[n][];
        for (int i = 0; i < n; i++) corners[i] = new int[] {random.nextInt(grid) - 1, random.nextInt(grid) - 1};
        // Sorted round a point within, most are sound; unsorted, few are.
        if (random.nextInt(3) > 0) {
            double x = grid / 2.0 - 1.3, y = grid / 2.0 - 1.4;
            Arrays.sort(corners, Comparator.comparingDouble(c -> Math.atan2(c[1] - y, c[0] - x)));
        }
        twins.ask("row", 0, 0, 2 * n);
        for (int i = 0; i < n; i++) {
            twins.ask("put", 0, 0, 2 * i, step * corners[i][0]);
            twins.ask("put", 0, 0, 2 * i + 1, step * corners[i][1]);
        }
        int kind = random.nextInt(5);
        Integer stone = twins.ask("stone", kind, 0, 0, kind == 4 ? random.nextInt(100) : 0);
        if (stone == null || stone < 0) return false;
        for (int what = 0; what < 10 + 2 * n; what++) twins.ask("told", stones, what);
        return true;
    }

    private static void askJoints(Twins twins, Random random, int stones) {
        twins.ask("arch", 2);
        for (int i = 0; i < 30; i++) {
            twins.ask("place", 0, random.nextInt(2), random.nextInt(stones));
            twins.ask("pier", 0, random.nextInt(2), random.nextInt(5) - 1, random.nextInt(5) - 1, random.nextInt(5) - 1,
                random.nextInt(5) - 1);
            twins.ask("load", 0, random.nextInt(2), random.nextInt(70) - 20, 1 + random.nextInt(9));
            twins.ask("whole", 0);
            for (int k = 0; k <= 2; k++) {
                for (int what = 0; what < 4; what++) {
                    if (twins.ask("joint", 0, k, what) != -1000) joints++;
                }
            }
            twins.ask("judge", 0, random.nextInt(2));
            twins.ask("number", random.nextInt(6));
            twins.ask("room", 0);
            twins.ask("order", 0, 0);
            for (int k = 0; k < 4; k++) twins.ask("bound", random.nextInt(3), k);
        }
    }
}
