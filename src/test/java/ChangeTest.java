import java.util.Random;

/** Arches that are changed again and again and asked after each change: each answer is the reference's. */
public final class ChangeTest {
    private static int judged = 0;

    public static void main(String[] args) {
        int seeds = args.length > 0 ? Integer.parseInt(args[0]) : 120;
        for (int seed = 0; seed < seeds; seed++) {
            Random random = new Random(seed);
            Twins twins = new Twins("change " + seed);
            twins.ask("rack", 0);
            twins.ask("rack", 1);
            int n = 1 + random.nextInt(3);
            new RandomArches(random, twins).build(0, n);
            if (twins.ask("whole", 0) != -1) continue;
            for (int i = 0; i < 8; i++) {
                change(twins, random, n);
                look(twins, random, n);
            }
        }
        System.out.println("judged " + judged);
        System.exit(Twins.wrongAnswers() > 0 || judged == 0 ? 1 : 0);
    }

    /** What is taken away comes back at once, so that the arch stays whole and only its loads have gone. */
    private static void change(Twins twins, Random random, int n) {
        int p = random.nextInt(n);
        Integer stone = twins.ask("there", 0, p);
        switch (random.nextInt(4)) {
            case 0 -> {
                twins.ask("place", 0, p, random.nextInt(2) - 2);
                twins.ask("whole", 0);
                twins.ask("judge", 0, 0);
                twins.ask("order", 0, 0);
                twins.ask("place", 0, p, stone);
            }
            case 1 -> twins.ask("slope", 0, random.nextInt(21), 1 + random.nextInt(20));
            default -> {
                for (int i = 0; i < 3; i++) twins.ask("load", 0, random.nextInt(n), random.nextInt(1800) - 900, 1 + random.nextInt(900));
            }
        }
    }

    private static void look(Twins twins, Random random, int n) {
        Integer safe = twins.ask("judge", 0, random.nextInt(2));
        if (safe != null) judged++;
        for (int what = 0; what < 6; what++) readPage(twins, twins.ask("number", what));
        for (int k = 0; k < 5; k++) readPage(twins, twins.ask("weigh", k));
        for (int which = 0; which < 3; which++) for (int k = 0; k < 5; k++) twins.ask("bound", which, k);
        for (int k = 0; k <= n; k++) twins.ask("order", 0, k);
        int scale = 1 + random.nextInt(20000);
        for (int how = 0; how < 2; how++) twins.ask("line", 0, how, scale, random.nextInt(scale), random.nextInt(scale) * -20);
    }

    private static void readPage(Twins twins, Integer length) {
        for (int k = 0; length != null && k < length; k++) twins.ask("octet", k);
    }
}
