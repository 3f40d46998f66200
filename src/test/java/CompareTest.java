import java.util.Random;

/** Arches built in many ways: each answer about them is the reference's. */
public final class CompareTest {
    private static int safe = 0;
    private static int broken = 0;
    private static int[] neverSizes = new int[5];
    private static int orders = 0;
    private static int rooms = 0;

    public static void main(String[] args) {
        int seeds = args.length > 0 ? Integer.parseInt(args[0]) : 400;
        int start = args.length > 1 ? Integer.parseInt(args[1]) : 0;
        for (int seed = start; seed < start + seeds; seed++) {
            Random random = new Random(seed);
            Twins twins = new Twins("seed " + seed);
            twins.ask("rack", 0);
            twins.ask("rack", 1);
            RandomArches arches = new RandomArches(random, twins);
            int n = random.nextInt(40) == 0 ? 7 + random.nextInt(4) : 1 + random.nextInt(4);
            arches.build(0, n);
            askAll(twins, random, n);
        }
        System.out.println("not whole " + broken + ", safe " + safe + ", never of two " + neverSizes[2] + ", three " + neverSizes[3] + ", four "
            + neverSizes[4] + ", orders " + orders + ", rooms between " + rooms);
        boolean thin = safe == 0 || neverSizes[2] == 0 || neverSizes[3] == 0 || neverSizes[4] == 0 || orders == 0 || rooms == 0;
        System.exit(Twins.wrongAnswers() > 0 || thin && args.length == 0 ? 1 : 0);
    }

    private static void askAll(Twins twins, Random random, int n) {
        if (twins.ask("whole", 0) != -1) broken++;
        for (int k = 0; k <= n; k++) for (int what = 0; what < 4; what++) twins.ask("joint", 0, k, what);
        for (int s = 0; s < n; s++) for (int what = 0; what < 18; what++) twins.ask("told", s, what);
        for (int i = 0; i < 5; i++) {
            int scale = 1 + random.nextInt(100000);
            twins.ask("line", 0, random.nextInt(2), random.nextInt(scale), random.nextInt(scale), random.nextInt(scale) * -20);
        }
        for (int how = 0; how < 2; how++) askJudged(twins, how);
        Integer room = n <= 4 ? twins.ask("room", 0) : null;
        if (room != null && room > 0 && room < 64) rooms++;
        for (int i = 0; i < (n <= 4 ? n : 2); i++) {
            for (int j = i; j < (n <= 4 ? n : 3); j++) twins.ask("strike", 0, i, j);
        }
        for (int k = 0; n <= 4 && k <= n; k++) {
            Integer p = twins.ask("order", 0, k);
            if (k == 1 && p != null && p >= 0) orders++;
        }
    }

    private static void askJudged(Twins twins, int how) {
        Integer verdict = twins.ask("judge", 0, how);
        if (verdict != null && verdict == 1) safe++;
        int set = 0;
        for (int which = -1; which <= 3; which++) {
            for (int k = -1; k < 9; k++) {
                Integer code = twins.ask("bound", which, k);
                if (which == 2 && code >= 0) set++;
            }
        }
        neverSizes[set]++;
        for (int what = -1; what < 7; what++) readPage(twins, twins.ask("number", what));
        for (int k = -1; k < 6; k++) readPage(twins, twins.ask("weigh", k));
    }

    private static void readPage(Twins twins, Integer length) {
        twins.ask("count", 3);
        for (int k = -1; length != null && k <= length; k++) twins.ask("octet", k);
    }
}
