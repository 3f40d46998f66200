import java.util.ArrayList;
import java.util.List;
import java.util.Random;

/** Calls of all sorts with arguments of all sorts, upon arches and before there are any. */
public final class JunkTest {
    private static final int[] EDGES = {-1000000001, -1000000000, -101, -100, -3, 6, 10, 11, 12, 20, 21, 24, 25, 39, 40,
        41, 99, 100, 101, 119, 120, 100000, 100001, 1000000000, 1000000001, Integer.MIN_VALUE, Integer.MAX_VALUE};

    public static void main(String[] args) {
        int seeds = args.length > 0 ? Integer.parseInt(args[0]) : 150;
        List<String> names = new ArrayList<>();
        for (String name : Twins.names()) names.add(name);
        names.sort(null);
        for (int seed = 0; seed < seeds; seed++) {
            Random random = new Random(seed);
            Twins twins = new Twins("junk " + seed);
            if (seed % 3 > 0) {
                twins.ask("rack", 0);
                twins.ask("rack", 1);
                RandomArches arches = new RandomArches(random, twins);
                for (int arch = 0; arch < seed % 3; arch++) arches.build(arch, 1 + random.nextInt(3));
            }
            for (int i = 0; i < 400; i++) {
                String name = names.get(random.nextInt(names.size()));
                int[] given = new int[Twins.parametersOf(name)];
                for (int p = 0; p < given.length; p++) given[p] = anyNumber(random);
                twins.ask(name, given);
            }
        }
        System.exit(Twins.wrongAnswers() > 0 ? 1 : 0);
    }

    private static int anyNumber(Random random) {
        int roll = random.nextInt(10);
        if (roll < 8) return random.nextInt(roll < 6 ? 2 : 8) - (roll == 7 ? 3 : 0);
        return EDGES[random.nextInt(EDGES.length)];
    }
}
