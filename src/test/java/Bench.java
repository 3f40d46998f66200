/** What the tests of the document's sentences share: saying what is due, and yards to say it of. */
public abstract class Bench {
    protected interface Call {
        void run();
    }

    protected static final int NONE = -1;
    protected static final int WEDGE = -2;
    protected static final int LEAST_INT = Integer.MIN_VALUE;
    protected static final int GREATEST_INT = Integer.MAX_VALUE;
    protected static final int BILLION = 1000000000;
    protected static final int[] SQUARE = {0, 0, 10, 0, 10, 10, 0, 10};
    protected static final int[] TRIANGLE = {0, 0, 1, 0, 0, 1};

    private static int wrong = 0;
    private static int sentences = 0;
    private static String sentence = "";

    protected Bench() {
    }

    /** One sentence of the document, or one part of it that names an edge, with the test that is its own. */
    protected static void sentence(String words, Call test) {
        sentence = words;
        sentences++;
        String thrown = thrown(test);
        if (!thrown.equals("nothing")) report("threw " + thrown);
        sentence = "";
    }

    protected static void finish() {
        if (sentences > 0) System.out.println(sentences + " sentences, " + wrong + " wrong answers");
        System.exit(wrong == 0 ? 0 : 1);
    }

    private static void report(String text) {
        wrong++;
        System.out.println((sentence.isEmpty() ? "" : "\"" + sentence + "\": ") + text);
    }

    protected static void due(String what, Object got, Object want) {
        if (!got.equals(want)) report(what + " answered " + got + ", due is " + want);
    }

    protected static String thrown(Call call) {
        try {
            call.run();
            return "nothing";
        } catch (RuntimeException e) {
            return e.getClass().getSimpleName();
        }
    }

    protected static void index(String what, Call call) {
        due(what, thrown(call), "IndexOutOfBoundsException");
    }

    protected static void argument(String what, Call call) {
        due(what, thrown(call), "IllegalArgumentException");
    }

    protected static void state(String what, Call call) {
        due(what, thrown(call), "IllegalStateException");
    }

    /** Rack 0 has rows of 16 bits, rack 1 of 32. */
    protected static ArchYard yard() {
        ArchYard yard = new ArchYard();
        yard.rack(0);
        yard.rack(1);
        return yard;
    }

    protected static void fill(ArchYard yard, int rack, int k, int... numbers) {
        yard.row(rack, k, numbers.length);
        for (int i = 0; i < numbers.length; i++) yard.put(rack, k, i, numbers[i]);
    }

    protected static int stone(ArchYard yard, int kind, int part, int... corners) {
        fill(yard, 1, 0, corners);
        return yard.stone(kind, 1, 0, part);
    }

    /** Reads the numbers of a row by putting each back; "missing" if there is no row. */
    protected static String rowOf(ArchYard yard, int rack, int k) {
        StringBuilder text = new StringBuilder();
        for (int i = 0; i <= 40; i++) {
            int number = yard.put(rack, k, i, 0);
            if (number == LEAST_INT) break;
            yard.put(rack, k, i, number);
            text.append(i == 0 ? "" : " ").append(number);
        }
        // Cutting what has no number to none changes nothing, and tells whether it is there.
        boolean missing = text.length() == 0 && yard.tear(rack, k, 0) == 0;
        return missing ? "missing" : text.toString();
    }

    protected static String page(ArchYard yard) {
        StringBuilder text = new StringBuilder();
        for (int k = 0; k < yard.count(3); k++) text.append((char) yard.octet(k));
        return text.toString();
    }

    protected static String number(ArchYard yard, int what) {
        int length = yard.number(what);
        due("the length of number " + what, length, yard.count(3));
        return page(yard);
    }

    protected static String least(ArchYard yard) {
        return number(yard, 0) + " " + number(yard, 1) + " " + number(yard, 2);
    }

    protected static String greatest(ArchYard yard) {
        return number(yard, 3) + " " + number(yard, 4) + " " + number(yard, 5);
    }

    protected static String weight(ArchYard yard, int k) {
        int length = yard.weigh(k);
        due("the length of weight " + k, length, yard.count(3));
        return page(yard);
    }

    protected static String boundsOf(ArchYard yard, int which) {
        StringBuilder text = new StringBuilder();
        for (int k = 0; yard.bound(which, k) != NONE; k++) text.append(k == 0 ? "" : " ").append(yard.bound(which, k));
        return text.toString();
    }

    /** NEVER as its bounds, the number of each, and what is left. */
    protected static String never(ArchYard yard) {
        StringBuilder text = new StringBuilder(boundsOf(yard, 2)).append(" by");
        for (int k = 0; k < 4 && yard.bound(2, k) != NONE; k++) text.append(' ').append(weight(yard, k));
        return text.append(": ").append(weight(yard, 4)).toString();
    }

    protected static String span(ArchYard yard, int k) {
        return yard.joint(0, k, 0) + " " + yard.joint(0, k, 1) + " " + yard.joint(0, k, 2) + " " + yard.joint(0, k, 3);
    }

    protected static String ordered(ArchYard yard) {
        StringBuilder text = new StringBuilder();
        for (int k = 0; yard.order(0, k) != NONE; k++) text.append(k == 0 ? "" : " ").append(yard.order(0, k));
        return text.toString();
    }

    /** One stone of the kind, 10 by 10, between upright piers: arch 0. */
    protected static ArchYard block(int kind, int part) {
        ArchYard yard = yard();
        stone(yard, kind, part, SQUARE);
        yard.arch(1);
        yard.place(0, 0, 0);
        yard.pier(0, 0, 0, 0, 0, 10);
        yard.pier(0, 1, 10, 10, 10, 0);
        return yard;
    }

    /** Stones of the kinds side by side, each 10 by 10: arch 0. */
    protected static ArchYard beam(int... kinds) {
        ArchYard yard = yard();
        int n = kinds.length;
        yard.arch(n);
        for (int p = 0; p < n; p++) {
            int x = 10 * p;
            yard.place(0, p, stone(yard, kinds[p], 0, x, 0, x + 10, 0, x + 10, 10, x, 10));
        }
        yard.pier(0, 0, 0, 0, 0, 10);
        yard.pier(0, 1, 10 * n, 10, 10 * n, 0);
        return yard;
    }

    /** Two stones that hang in a V: with plumb joints at 0, 10 and 20, 10 up, 0 up and 10 up, each 2 high. */
    protected static ArchYard hanging() {
        ArchYard yard = yard();
        stone(yard, 0, 0, 0, 10, 10, 0, 10, 2, 0, 12);
        stone(yard, 0, 0, 10, 0, 20, 10, 20, 12, 10, 2);
        yard.arch(2);
        yard.place(0, 0, 0);
        yard.place(0, 1, 1);
        yard.pier(0, 0, 0, 10, 0, 12);
        yard.pier(0, 1, 20, 12, 20, 10);
        return yard;
    }

    /** Three stones 10 wide and 2 high, of 0, 10, 10 and 0 up, with a load upon the middle of the first. */
    protected static ArchYard bridge(int load, int... kinds) {
        ArchYard yard = yard();
        stone(yard, kinds[0], 0, 0, 0, 10, 10, 10, 12, 0, 2);
        stone(yard, kinds[1], 0, 10, 10, 20, 10, 20, 12, 10, 12);
        stone(yard, kinds[2], 0, 20, 10, 30, 0, 30, 2, 20, 12);
        yard.arch(3);
        for (int p = 0; p < 3; p++) yard.place(0, p, p);
        yard.pier(0, 0, 0, 0, 0, 2);
        yard.pier(0, 1, 30, 2, 30, 0);
        if (load > 0) yard.load(0, 0, 50, load);
        return yard;
    }

    /** Stones 20 wide between joints 10 high that lean over to the right by so much: a flat arch. */
    protected static ArchYard leaning(int... over) {
        ArchYard yard = yard();
        int n = over.length - 1;
        yard.arch(n);
        for (int p = 0; p < n; p++) {
            int x = 20 * p;
            yard.place(0, p, stone(yard, 0, 0, x, 0, x + 20, 0, x + 20 + over[p + 1], 10, x + over[p], 10));
        }
        yard.pier(0, 0, 0, 0, over[0], 10);
        yard.pier(0, 1, 20 * n + over[n], 10, 20 * n, 0);
        yard.slope(0, 1, 20);
        return yard;
    }
}
