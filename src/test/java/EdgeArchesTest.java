/** The edges that promises 8 to 15 and the terms of ARCHES name, each sentence by itself. */
public final class EdgeArchesTest extends Bench {
    private static final int[] NO_ARCHES = {-1, 1, 12, LEAST_INT, GREATEST_INT};

    private static void sizesOfArches() {
        ArchYard yard = new ArchYard();
        for (int n : new int[] {0, 11, -1, LEAST_INT, GREATEST_INT}) argument(n + " places", () -> yard.arch(n));
        due("arches after refused ones", yard.count(2), 0);
        due("1 place", yard.arch(1), 0);
        due("10 places", yard.arch(10), 1);
        due("arches", yard.count(2), 2);
        due("place 0 of 1", yard.there(0, 0), NONE);
        index("place 1 of 1", () -> yard.there(0, 1));
        due("place 9 of 10", yard.there(1, 9), NONE);
        index("place 10 of 10", () -> yard.there(1, 10));
    }

    private static void twelveArches() {
        ArchYard yard = new ArchYard();
        for (int i = 0; i < 12; i++) due("arch " + i, yard.arch(1 + i % 10), i);
        state("a thirteenth of 1", () -> yard.arch(1));
        state("a thirteenth of 10", () -> yard.arch(10));
        due("arches", yard.count(2), 12);
        due("the twelfth", yard.there(11, 1), NONE);
        index("place 2 of the twelfth", () -> yard.there(11, 2));
        index("arch 12", () -> yard.whole(12));
    }

    private static void sizeBeforeTwelve() {
        ArchYard yard = new ArchYard();
        for (int i = 0; i < 12; i++) yard.arch(1);
        argument("a thirteenth of 0", () -> yard.arch(0));
        argument("a thirteenth of 11", () -> yard.arch(11));
    }

    private static void nothingInThem() {
        ArchYard yard = yard();
        stone(yard, 0, 0, SQUARE);
        yard.arch(10);
        for (int p = 0; p < 10; p++) due("place " + p, yard.there(0, p), NONE);
        due("it is not whole at", yard.whole(0), 0);
        for (int k = 0; k <= 10; k++) due("joint " + k, yard.joint(0, k, 0), -1000);
    }

    private static void noSuchArch() {
        ArchYard yard = block(0, 0);
        for (int arch : NO_ARCHES) {
            index("pier of " + arch, () -> yard.pier(arch, 0, 0, 0, 0, 1));
            index("place of " + arch, () -> yard.place(arch, 0, 0));
            index("there of " + arch, () -> yard.there(arch, 0));
            index("load of " + arch, () -> yard.load(arch, 0, 50, 1));
            index("slope of " + arch, () -> yard.slope(arch, 1, 1));
            index("whole of " + arch, () -> yard.whole(arch));
            index("joint of " + arch, () -> yard.joint(arch, 0, 0));
        }
        due("arch 0 is as it was", yard.there(0, 0) + " " + span(yard, 0) + " " + span(yard, 1), "0 0 0 0 10 10 0 10 10");
    }

    private static void archBeforeArguments() {
        ArchYard yard = block(0, 0);
        index("pier with no such side", () -> yard.pier(1, 2, 0, 0, 0, 1));
        index("pier with a far number", () -> yard.pier(1, 0, 101, 0, 0, 1));
        index("pier without length", () -> yard.pier(1, 0, 0, 0, 0, 0));
        index("load of no grains", () -> yard.load(1, 0, 50, 0));
        index("load of no grains upon no place", () -> yard.load(0, 1, 50, 0));
        index("slope of none", () -> yard.slope(1, 21, 0));
        index("joint with no such what", () -> yard.joint(1, 0, 4));
        index("joint 2 with no such what", () -> yard.joint(0, 2, 4));
    }

    private static void sidesOfPiers() {
        ArchYard yard = block(0, 0);
        for (int side : new int[] {-1, 2, LEAST_INT, GREATEST_INT}) argument("side " + side, () -> yard.pier(0, side, 0, 2, 0, 4));
        due("the left one stays", span(yard, 0), "0 0 0 10");
        due("the right one stays", span(yard, 1), "10 0 10 10");
        yard.pier(0, 0, 0, 2, 0, 4);
        due("side 0", span(yard, 0), "0 2 0 4");
        due("the right one stays again", span(yard, 1), "10 0 10 10");
        yard.pier(0, 1, 10, 7, 10, 3);
        due("side 1", span(yard, 1), "10 3 10 7");
    }

    private static void numbersOfPiers() {
        ArchYard yard = block(0, 0);
        for (int at = 0; at < 4; at++) {
            for (int far : new int[] {101, -101, LEAST_INT, GREATEST_INT}) {
                int[] c = {0, 1, 0, 3};
                c[at] = far;
                argument(far + " at " + at, () -> yard.pier(0, 0, c[0], c[1], c[2], c[3]));
            }
        }
        due("the pier stays", span(yard, 0), "0 0 0 10");
    }

    private static void farthestPiers() {
        ArchYard yard = yard();
        stone(yard, 0, 0, -100, -100, 100, -100, 100, 100, -100, 100);
        yard.arch(1);
        yard.place(0, 0, 0);
        yard.pier(0, 0, -100, -100, -100, 100);
        yard.pier(0, 1, 100, 100, 100, -100);
        due("left", span(yard, 0), "-100 -100 -100 100");
        due("right", span(yard, 1), "100 -100 100 100");
        yard.pier(0, 0, 100, 100, -100, 100);
        due("above", span(yard, 0), "-1000 -1000 -1000 -1000");
        yard.pier(0, 0, -100, 100, 100, 100);
        due("above, told the right way", span(yard, 0), "-100 100 100 100");
    }

    private static void pierWithoutLength() {
        ArchYard yard = block(0, 0);
        argument("at 0, 0", () -> yard.pier(0, 0, 0, 0, 0, 0));
        argument("at 100, -100", () -> yard.pier(0, 1, 100, -100, 100, -100));
        due("the left one stays", span(yard, 0), "0 0 0 10");
        yard.pier(0, 0, 0, 5, 0, 6);
        due("one long", span(yard, 0), "0 5 0 6");
        yard.pier(0, 0, 0, 0, 10, 0);
        due("of one height", span(yard, 0), "-1000 -1000 -1000 -1000");
        yard.pier(0, 0, 10, 0, 0, 0);
        due("of one height, the right way", span(yard, 0), "10 0 0 0");
    }

    private static void refusedPierIsNotTold() {
        ArchYard yard = yard();
        stone(yard, 0, 0, SQUARE);
        yard.arch(1);
        yard.place(0, 0, 0);
        argument("a far number", () -> yard.pier(0, 0, 0, 0, 0, 101));
        argument("no length", () -> yard.pier(0, 0, 0, 0, 0, 0));
        due("the left one isn't told", yard.whole(0), 100);
        yard.pier(0, 0, 0, 0, 0, 10);
        argument("a far number", () -> yard.pier(0, 1, 10, 10, 10, -101));
        due("the right one isn't told", yard.whole(0), 101);
    }

    private static void whatCanBePlaced() {
        ArchYard yard = block(0, 0);
        for (int s : new int[] {1, 120, -3, LEAST_INT, GREATEST_INT}) index("stone " + s, () -> yard.place(0, 0, s));
        due("it stays", yard.there(0, 0), 0);
        yard.place(0, 0, WEDGE);
        for (int s : new int[] {1, -3}) index("stone " + s + " upon a wedge", () -> yard.place(0, 0, s));
        due("the wedge stays", yard.there(0, 0), WEDGE);
        yard.place(0, 0, NONE);
        due("nothing", yard.there(0, 0), NONE);
        yard.place(0, 0, 0);
        due("the stone", yard.there(0, 0), 0);
    }

    private static void noSuchPlace() {
        ArchYard yard = beam(0, 0);
        for (int p : new int[] {-1, 2, 10, LEAST_INT, GREATEST_INT}) {
            index("place " + p, () -> yard.place(0, p, 0));
            index("nothing in place " + p, () -> yard.place(0, p, NONE));
            index("there " + p, () -> yard.there(0, p));
            index("load " + p, () -> yard.load(0, p, 50, 1));
        }
        due("both stay", yard.there(0, 0) + " " + yard.there(0, 1), "0 1");
        due("no load came", yard.load(0, 0, 50, 1), 1);
    }

    private static void oneStoneInSeveral() {
        ArchYard yard = block(0, 0);
        yard.arch(10);
        for (int p = 0; p < 10; p++) yard.place(1, p, 0);
        for (int p = 0; p < 10; p++) due("place " + p, yard.there(1, p), 0);
        due("and in the first arch", yard.there(0, 0), 0);
        due("it is no neighbour of itself", yard.joint(1, 5, 0), -1000);
        yard.place(1, 5, NONE);
        due("the others stay", yard.there(1, 4) + " " + yard.there(1, 6) + " " + yard.there(0, 0), "0 0 0");
    }

    private static void loadsGo() {
        ArchYard yard = beam(0, 0);
        yard.load(0, 0, 50, 1);
        yard.load(0, 0, 60, 1);
        yard.load(0, 1, 150, 1);
        yard.place(0, 0, WEDGE);
        yard.place(0, 0, 0);
        due("two went with the wedge, one stays", yard.load(0, 0, 50, 1), 2);
        yard.place(0, 1, NONE);
        yard.place(0, 1, 1);
        due("one went with nothing, one stays", yard.load(0, 1, 150, 1), 2);
    }

    /** The block and 100 at its right end: 250 go to the left pier, 350 to the right one. */
    private static void loadsStayUponStones() {
        ArchYard yard = block(0, 0);
        yard.load(0, 0, 100, 100);
        stone(yard, 0, 0, 0, 0, 5, 0, 10, 0, 10, 10, 0, 10);
        yard.place(0, 0, 1);
        due("upon another stone", yard.line(0, 1, 0, 250, 0), NONE);
        due("the next load", yard.load(0, 0, 100, 1), 2);
        due("and it acts", yard.line(0, 1, 0, 250, 0), NONE);
        yard.load(0, 0, 0, 2);
        due("one at the left end", yard.line(0, 1, 0, 250, 0), 4);
        due("is borne there", yard.line(0, 1, 0, 252, 0), NONE);
        yard.place(0, 0, 1);
        due("upon the same stone", yard.line(0, 1, 0, 252, 0), NONE);
        yard.place(0, 0, WEDGE);
        yard.place(0, 0, 1);
        due("gone", yard.line(0, 1, 0, 252, 0), 5);
        due("the block alone", yard.line(0, 1, 0, 250, 0), NONE);
    }

    /** A load stays upon what comes into its place, even where that does not reach. */
    private static void loadsStayBesideStones() {
        ArchYard yard = block(0, 0);
        yard.load(0, 0, 100, 500);
        stone(yard, 0, 0, 0, 0, 5, 0, 5, 10, 0, 10);
        yard.place(0, 0, 1);
        yard.pier(0, 1, 5, 10, 5, 0);
        due("loads", yard.load(0, 0, 100, 1), NONE);
        due("two with the next", yard.load(0, 0, 50, 1), 2);
        yard.place(0, 0, NONE);
        yard.place(0, 0, 1);
        yard.load(0, 0, 50, 500);
        // 250 at 2.5 and 500 at 5: of 750 the right pier bears 625.
        due("500 at its end", yard.line(0, 1, 0, 125, 0), NONE);
        yard.place(0, 0, 0);
        yard.pier(0, 1, 10, 10, 10, 0);
        // 500 at 5 and 500 at 5.
        due("500 in the middle now", yard.line(0, 1, 0, 500, 0), NONE);
    }

    /** What stays keeps its spot and its grains: 500 at 5, 500 and 100 at 15, of which 525 go to the left pier. */
    private static void loadsThatStayAreTheSame() {
        ArchYard yard = beam(0, 0);
        yard.load(0, 0, 0, 700);
        yard.load(0, 1, 150, 100);
        yard.load(0, 0, 30, 900);
        yard.place(0, 0, NONE);
        yard.place(0, 0, 0);
        due("without the others, by the lowest line", yard.line(0, 1, 1000, 525, 0), NONE);
        due("and no less", yard.line(0, 1, 1000, 524, 0), 8);
        due("one stayed", yard.load(0, 1, 150, 1), 2);
        ArchYard first = beam(0, 0);
        first.load(0, 1, 150, 100);
        first.load(0, 0, 0, 700);
        first.place(0, 0, WEDGE);
        first.place(0, 0, 0);
        due("the first one told stays", first.line(0, 1, 1000, 525, 0), NONE);
        due("and the last one goes", first.line(0, 1, 1000, 524, 0), 8);
        due("one stayed here too", first.load(0, 1, 150, 1), 2);
    }

    private static void loadsOfOtherArchesStay() {
        ArchYard yard = block(0, 0);
        yard.arch(1);
        yard.place(1, 0, 0);
        yard.load(0, 0, 50, 1);
        yard.load(1, 0, 50, 1);
        yard.place(1, 0, NONE);
        due("of arch 0", yard.load(0, 0, 50, 1), 2);
    }

    private static void refusedPlaceKeepsLoads() {
        ArchYard yard = block(0, 0);
        yard.load(0, 0, 50, 1);
        index("stone 1", () -> yard.place(0, 0, 1));
        index("stone -3", () -> yard.place(0, 0, -3));
        due("the next load", yard.load(0, 0, 50, 1), 2);
    }

    private static void sixLoads() {
        ArchYard yard = beam(0, 0);
        yard.arch(1);
        yard.place(1, 0, 0);
        for (int i = 1; i <= 6; i++) due("load " + i, yard.load(0, i % 2, 100, 10), i);
        due("a seventh", yard.load(0, 0, 100, 100000), NONE);
        due("upon the other place", yard.load(0, 1, 100, 100000), NONE);
        due("another arch's first", yard.load(1, 0, 50, 1), 1);
        // 500 at 5, 60 at 10, 500 at 15 upon piers at 0 and 20.
        due("none more came", yard.line(0, 1, 4000, 530, -20000), NONE);
        yard.place(0, 1, NONE);
        yard.place(0, 1, 1);
        for (int i = 4; i <= 6; i++) due("load " + i + " once more", yard.load(0, 1, 100, 1), i);
        due("a seventh once more", yard.load(0, 1, 100, 1), NONE);
    }

    private static void loadsUponNoStone() {
        ArchYard yard = beam(0, 0);
        yard.place(0, 0, WEDGE);
        yard.place(0, 1, NONE);
        due("upon a wedge", yard.load(0, 0, 50, 1), NONE);
        due("upon nothing", yard.load(0, 1, 150, 1), NONE);
        yard.place(0, 0, 0);
        due("none had come", yard.load(0, 0, 50, 1), 1);
    }

    private static void spotsWithinTheStone() {
        ArchYard yard = yard();
        stone(yard, 0, 0, -7, 0, 3, 5, -2, 9);
        yard.arch(1);
        yard.place(0, 0, 0);
        due("left of it", yard.load(0, 0, -71, 1), NONE);
        due("right of it", yard.load(0, 0, 31, 1), NONE);
        due("far left", yard.load(0, 0, LEAST_INT, 1), NONE);
        due("far right", yard.load(0, 0, GREATEST_INT, 1), NONE);
        due("its left end", yard.load(0, 0, -70, 1), 1);
        due("its right end", yard.load(0, 0, 30, 1), 2);
    }

    private static void farthestSpots() {
        ArchYard yard = yard();
        stone(yard, 0, 0, -100, -100, 100, -100, 100, 100, -100, 100);
        yard.arch(1);
        yard.place(0, 0, 0);
        due("-1001", yard.load(0, 0, -1001, 1), NONE);
        due("1001", yard.load(0, 0, 1001, 1), NONE);
        due("-1000", yard.load(0, 0, -1000, 1), 1);
        due("1000", yard.load(0, 0, 1000, 1), 2);
        stone(yard, 0, 0, -100, 0, -99, 0, -100, 1);
        yard.arch(1);
        yard.place(1, 0, 1);
        due("right of one at the left", yard.load(1, 0, -989, 1), NONE);
        due("its right end", yard.load(1, 0, -990, 1), 1);
        stone(yard, 0, 0, 99, 0, 100, 0, 100, 1);
        yard.arch(1);
        yard.place(2, 0, 2);
        due("left of one at the right", yard.load(2, 0, 989, 1), NONE);
        due("its left end", yard.load(2, 0, 990, 1), 1);
    }

    private static void grainsOfLoads() {
        ArchYard yard = block(0, 0);
        for (int grains : new int[] {0, -1, 100001, LEAST_INT, GREATEST_INT}) argument(grains + " grains", () -> yard.load(0, 0, 50, grains));
        due("1", yard.load(0, 0, 50, 1), 1);
        due("100,000", yard.load(0, 0, 50, 100000), 2);
        // 500 and 100,001 in the middle.
        due("both act, none of the others", yard.line(0, 1, 1000, 50250, -5000), NONE);
        due("less", yard.line(0, 1, 0, 50250, 0), 4);
    }

    private static void grainsBeforeNone() {
        ArchYard yard = block(0, 0);
        argument("no grains beside it", () -> yard.load(0, 0, 101, 0));
        for (int i = 0; i < 6; i++) yard.load(0, 0, 50, 1);
        argument("no grains, a seventh", () -> yard.load(0, 0, 50, 0));
        yard.place(0, 0, NONE);
        argument("no grains upon nothing", () -> yard.load(0, 0, 50, 100001));
    }

    private static void slopesAtFirst() {
        ArchYard yard = block(0, 0);
        due("half of 500", yard.line(0, 0, 500, 250, -25000), NONE);
        due("more than half of 499", yard.line(0, 0, 499, 250, -25000), 2);
        yard.slope(0, 1, 2);
        due("told so", yard.line(0, 0, 499, 250, -25000), 2);
    }

    private static void slopesThatAreNone() {
        ArchYard yard = block(0, 0);
        for (int p : new int[] {-1, 21, LEAST_INT, GREATEST_INT}) argument(p + " over 1", () -> yard.slope(0, p, 1));
        for (int q : new int[] {0, -1, 21, LEAST_INT, GREATEST_INT}) argument("1 over " + q, () -> yard.slope(0, 1, q));
        due("1 over 2 still", yard.line(0, 0, 500, 250, -25000), NONE);
        due("and no more", yard.line(0, 0, 499, 250, -25000), 2);
    }

    private static void farthestSlopes() {
        ArchYard yard = block(0, 0);
        yard.slope(0, 0, 1);
        due("0 over 1", yard.line(0, 0, 1000, 1, -50000), 2);
        due("0 over 1 without lift, but with the weight", yard.line(0, 0, 1000, 0, -50000), 7);
        yard.slope(0, 0, 20);
        due("0 over 20", yard.line(0, 0, 1000, 1, -50000), 2);
        yard.slope(0, 20, 20);
        due("20 over 20", yard.line(0, 0, 250, 250, -12500), NONE);
        due("20 over 20, less", yard.line(0, 0, 249, 250, -12450), 2);
        yard.slope(0, 20, 1);
        due("20 over 1", yard.line(0, 0, 13, 250, -500), NONE);
        due("20 over 1, less", yard.line(0, 0, 12, 250, -500), 2);
        yard.slope(0, 1, 20);
        due("1 over 20", yard.line(0, 0, 5000, 250, -250000), NONE);
        due("1 over 20, less", yard.line(0, 0, 4999, 250, -250000), 2);
    }

    private static void slopesOfEachArch() {
        ArchYard yard = block(0, 0);
        yard.arch(1);
        yard.place(1, 0, 0);
        yard.pier(1, 0, 0, 0, 0, 10);
        yard.pier(1, 1, 10, 10, 10, 0);
        yard.slope(0, 1, 1);
        due("told", yard.line(0, 0, 250, 250, -12500), NONE);
        due("not told", yard.line(1, 0, 250, 250, -12500), 2);
    }

    private static void wholeWithoutStones() {
        ArchYard yard = beam(0, 0, 0);
        due("whole", yard.whole(0), NONE);
        yard.place(0, 2, NONE);
        due("nothing in the last", yard.whole(0), 2);
        yard.place(0, 1, WEDGE);
        due("a wedge before it", yard.whole(0), 1);
        yard.place(0, 0, NONE);
        due("nothing in the first", yard.whole(0), 0);
        for (int p = 0; p < 3; p++) yard.place(0, p, p);
        due("whole again", yard.whole(0), NONE);
    }

    private static void keysInPlaces() {
        due("alone", block(1, 0).whole(0), 0);
        due("first of two", beam(1, 0).whole(0), 0);
        due("last of two", beam(0, 1).whole(0), 1);
        due("first of three", beam(1, 0, 0).whole(0), 0);
        due("last of three", beam(0, 0, 1).whole(0), 2);
        due("second of three", beam(0, 1, 0).whole(0), NONE);
        due("two of four", beam(0, 1, 1, 0).whole(0), NONE);
        due("between springers", beam(2, 1, 2).whole(0), NONE);
        due("between filled ones", beam(3, 1, 4).whole(0), NONE);
        due("ninth of ten", beam(0, 0, 0, 0, 0, 0, 0, 0, 1, 0).whole(0), NONE);
        due("tenth of ten", beam(0, 0, 0, 0, 0, 0, 0, 0, 0, 1).whole(0), 9);
    }

    private static void keysBesideNoStone() {
        ArchYard yard = beam(0, 0, 1, 0, 0);
        due("whole", yard.whole(0), NONE);
        yard.place(0, 3, WEDGE);
        due("a wedge to the right: at the key", yard.whole(0), 2);
        yard.place(0, 3, NONE);
        due("nothing to the right: at the key", yard.whole(0), 2);
        yard.place(0, 3, 3);
        yard.place(0, 1, WEDGE);
        due("a wedge to the left: at the wedge, which is first", yard.whole(0), 1);
        yard.place(0, 1, 1);
        yard.place(0, 4, NONE);
        due("nothing farther on: there", yard.whole(0), 4);
    }

    private static void springersInPlaces() {
        due("alone", block(2, 0).whole(0), NONE);
        due("both of two", beam(2, 2).whole(0), NONE);
        due("first and last", beam(2, 0, 0, 2).whole(0), NONE);
        due("second of three", beam(0, 2, 0).whole(0), 1);
        due("second of four", beam(2, 2, 0, 2).whole(0), 1);
        due("third of four", beam(2, 0, 2, 2).whole(0), 2);
        due("ninth of ten", beam(0, 0, 0, 0, 0, 0, 0, 0, 2, 2).whole(0), 8);
    }

    private static void theFirstPlaceThatIsNot() {
        ArchYard yard = beam(0, 2, 0, 0);
        yard.place(0, 2, NONE);
        due("a springer before nothing", yard.whole(0), 1);
        yard.place(0, 0, WEDGE);
        due("a wedge before it", yard.whole(0), 0);
    }

    private static void placesBeforePiersBeforeJoints() {
        ArchYard yard = yard();
        stone(yard, 0, 0, SQUARE);
        stone(yard, 0, 0, 20, 0, 30, 0, 30, 10, 20, 10);
        yard.arch(2);
        yard.place(0, 0, 0);
        due("a place before piers", yard.whole(0), 1);
        yard.place(0, 1, 1);
        due("the left pier before the right", yard.whole(0), 100);
        yard.pier(0, 1, 50, 10, 50, 0);
        due("the left pier still", yard.whole(0), 100);
        yard.pier(0, 0, -9, 0, -9, 10);
        due("joint 0 before others", yard.whole(0), 200);
        yard.pier(0, 0, 0, 0, 0, 10);
        due("joint 1", yard.whole(0), 201);
        stone(yard, 0, 0, 10, 0, 30, 0, 30, 10, 10, 10);
        yard.place(0, 1, 2);
        due("the last joint", yard.whole(0), 202);
        yard.pier(0, 1, 30, 10, 30, 0);
        due("all are there", yard.whole(0), NONE);
        yard.place(0, 1, WEDGE);
        due("a place again", yard.whole(0), 1);
    }

    private static void rightPierBeforeJoints() {
        ArchYard yard = yard();
        stone(yard, 0, 0, SQUARE);
        yard.arch(1);
        yard.place(0, 0, 0);
        yard.pier(0, 0, 50, 0, 50, 10);
        due("the right pier before joint 0", yard.whole(0), 101);
    }

    private static void tenthJoint() {
        ArchYard yard = beam(0, 0, 0, 0, 0, 0, 0, 0, 0, 0);
        due("ten stones", yard.whole(0), NONE);
        due("joint 10", span(yard, 10), "100 0 100 10");
        yard.pier(0, 1, 99, 10, 99, 0);
        due("the eleventh joint is missing", yard.whole(0), 210);
        index("joint 11", () -> yard.joint(0, 11, 0));
    }

    private static void jointsThatAreNone() {
        ArchYard yard = beam(0, 0);
        for (int k : new int[] {-1, 3, 11, LEAST_INT, GREATEST_INT}) index("joint " + k, () -> yard.joint(0, k, 0));
        for (int what : new int[] {-1, 4, LEAST_INT, GREATEST_INT}) {
            for (int k = 0; k <= 2; k++) {
                int joint = k;
                argument("joint " + k + ", what " + what, () -> yard.joint(0, joint, what));
            }
        }
        yard.place(0, 0, NONE);
        argument("what 4 of a missing one", () -> yard.joint(0, 0, 4));
    }

    private static void missingJoints() {
        String missing = "-1000 -1000 -1000 -1000";
        ArchYard yard = beam(0, 0);
        due("there", span(yard, 1), "10 0 10 10");
        yard.place(0, 0, WEDGE);
        due("beside a pier and a wedge", span(yard, 0), missing);
        due("of a wedge and a stone", span(yard, 1), missing);
        due("the other one stays", span(yard, 2), "20 0 20 10");
        yard.place(0, 0, 0);
        yard.place(0, 1, NONE);
        due("of a stone and nothing", span(yard, 1), missing);
        due("of nothing and a pier", span(yard, 2), missing);
        due("the first one is there", span(yard, 0), "0 0 0 10");
        ArchYard bare = yard();
        stone(bare, 0, 0, SQUARE);
        bare.arch(1);
        bare.place(0, 0, 0);
        due("of a left pier that isn't told", span(bare, 0), missing);
        due("of a right pier that isn't told", span(bare, 1), missing);
    }

    private static void facesOnOneLine() {
        ArchYard yard = block(0, 0);
        for (int x : new int[] {-1, 1}) {
            yard.pier(0, 0, x, 0, x, 10);
            due("a pier at " + x, yard.joint(0, 0, 0), -1000);
        }
        yard.pier(0, 0, 0, 0, 1, 10);
        due("a pier that leans", yard.joint(0, 0, 0), -1000);
        yard.pier(0, 0, -1, -10, 0, 0);
        due("a pier whose end is on the line", yard.joint(0, 0, 0), -1000);
        stone(yard, 0, 0, -100, -99, 100, -100, 100, 100);
        yard.arch(1);
        yard.place(1, 0, 1);
        yard.pier(1, 0, 100, 100, -100, -99);
        due("along a long slope, the wrong way", yard.joint(1, 0, 0), -1000);
        yard.pier(1, 0, -100, -99, 100, 100);
        due("along a long slope", yard.joint(1, 0, 2), 100);
        yard.pier(1, 0, -100, -99, 100, 99);
        due("one beside it at its end", yard.joint(1, 0, 2), -1000);
    }

    private static void facesThatGoOneWay() {
        ArchYard yard = block(0, 0);
        yard.pier(0, 0, 0, 10, 0, 0);
        due("the left pier with the stone's way", yard.joint(0, 0, 0), -1000);
        yard.pier(0, 1, 10, 0, 10, 10);
        due("the right pier with the stone's way", yard.joint(0, 1, 0), -1000);
    }

    private static void moreThanAPoint() {
        ArchYard yard = block(0, 0);
        yard.pier(0, 0, 0, -10, 0, 0);
        due("a point below", yard.joint(0, 0, 0), -1000);
        yard.pier(0, 0, 0, 10, 0, 20);
        due("a point above", yard.joint(0, 0, 0), -1000);
        yard.pier(0, 0, 0, -10, 0, -1);
        due("nothing below", yard.joint(0, 0, 0), -1000);
        yard.pier(0, 0, 0, -10, 0, 1);
        due("one below", span(yard, 0), "0 0 0 1");
        yard.pier(0, 0, 0, 9, 0, 20);
        due("one above", span(yard, 0), "0 9 0 10");
        yard.pier(0, 1, 10, 20, 10, 10);
        due("a point above to the right", yard.joint(0, 1, 0), -1000);
        yard.pier(0, 1, 10, 20, 10, 9);
        due("one above to the right", span(yard, 1), "10 9 10 10");
        yard.pier(0, 1, 10, 1, 10, -20);
        due("one below to the right", span(yard, 1), "10 0 10 1");
    }

    private static void whatIsInCommon() {
        ArchYard yard = block(0, 0);
        yard.pier(0, 0, 0, 3, 0, 7);
        due("a shorter pier", span(yard, 0), "0 3 0 7");
        yard.pier(0, 0, 0, -50, 0, 50);
        due("a longer pier", span(yard, 0), "0 0 0 10");
        yard.pier(0, 1, 10, 7, 10, 3);
        due("a shorter right pier", span(yard, 1), "10 3 10 7");
        yard.pier(0, 1, 10, 50, 10, -50);
        due("a longer right pier", span(yard, 1), "10 0 10 10");
        yard.pier(0, 0, 8, 0, -4, 0);
        due("a level one goes the pier's way", span(yard, 0), "8 0 0 0");
        yard.pier(0, 1, -4, 10, 6, 10);
        due("a level right one goes the stone's way", span(yard, 1), "6 10 0 10");
    }

    /** A stone whose upper face goes from 12, 18 down to 0, 0; the other's lower face lies on its line. */
    private static void whatIsInCommonOfSlopes() {
        ArchYard yard = yard();
        yard.arch(2);
        yard.place(0, 0, stone(yard, 0, 0, 0, 0, 20, 0, 12, 18));
        yard.place(0, 1, stone(yard, 0, 0, 4, 6, 8, 12, 0, 20));
        due("a shorter one", span(yard, 1), "8 12 4 6");
        yard.place(0, 1, stone(yard, 0, 0, -4, -6, 16, 24, -20, 20));
        due("a longer one", span(yard, 1), "12 18 0 0");
        yard.place(0, 1, stone(yard, 0, 0, -4, -6, 2, 3, -20, 20));
        due("one that begins before", span(yard, 1), "2 3 0 0");
        yard.place(0, 1, stone(yard, 0, 0, 10, 15, 16, 24, -20, 40));
        due("one that ends behind", span(yard, 1), "12 18 10 15");
        yard.place(0, 1, stone(yard, 0, 0, 12, 18, 16, 24, -20, 40));
        due("one that begins where it ends", yard.joint(0, 1, 0), -1000);
        yard.place(0, 1, stone(yard, 0, 0, 4, 7, 8, 13, 0, 20));
        due("one that lies above", yard.joint(0, 1, 0), -1000);
        yard.place(0, 1, stone(yard, 0, 0, 4, 6, 8, 11, 0, 20));
        due("one that begins on its line", yard.joint(0, 1, 0), -1000);
        yard.place(0, 1, stone(yard, 0, 0, 4, 5, 8, 12, 0, 20));
        due("one that ends on its line", yard.joint(0, 1, 0), -1000);
    }

    private static void firstFaceOfTheLeftOne() {
        ArchYard yard = yard();
        yard.arch(2);
        int slab = stone(yard, 0, 0, 10, 2, 20, 2, 20, 12, 10, 12);
        int low = stone(yard, 0, 0, 0, 0, 10, 0, 10, 4, 5, 4, 5, 6, 10, 6, 10, 10, 0, 10);
        int high = stone(yard, 0, 0, 10, 6, 10, 10, 0, 10, 0, 0, 10, 0, 10, 4, 5, 4, 5, 6);
        int last = stone(yard, 0, 0, 10, 10, 0, 10, 0, 0, 10, 0, 10, 4, 5, 4, 5, 6, 10, 6);
        yard.place(0, 0, low);
        yard.place(0, 1, slab);
        due("the lower one told first", span(yard, 1), "10 2 10 4");
        yard.place(0, 0, high);
        due("the upper one told first", span(yard, 1), "10 6 10 10");
        yard.place(0, 0, last);
        due("the upper one is the last face", span(yard, 1), "10 2 10 4");
    }

    private static void firstFaceOfTheRightOne() {
        ArchYard yard = yard();
        yard.arch(2);
        yard.place(0, 0, stone(yard, 0, 0, SQUARE));
        yard.place(0, 1, stone(yard, 0, 0, 20, 0, 20, 10, 10, 10, 10, 6, 15, 6, 15, 4, 10, 4, 10, 0));
        due("the upper one told first", span(yard, 1), "10 6 10 10");
        yard.place(0, 1, stone(yard, 0, 0, 10, 4, 10, 0, 20, 0, 20, 10, 10, 10, 10, 6, 15, 6, 15, 4));
        due("the lower one told first", span(yard, 1), "10 0 10 4");
        yard.place(0, 1, stone(yard, 0, 0, 10, 0, 20, 0, 20, 10, 10, 10, 10, 6, 15, 6, 15, 4, 10, 4));
        due("the lower one is the last face", span(yard, 1), "10 6 10 10");
    }

    /** The left one's lower tooth meets the right one's last face; its upper one meets the first. */
    private static void theLeftOneGoesFirst() {
        ArchYard yard = yard();
        yard.arch(2);
        yard.place(0, 0, stone(yard, 0, 0, 0, 0, 10, 0, 10, 4, 5, 4, 5, 6, 10, 6, 10, 10, 0, 10));
        yard.place(0, 1, stone(yard, 0, 0, 10, 10, 10, 6, 15, 6, 15, 4, 10, 4, 10, 0, 20, 0, 20, 10));
        due("the left one's first face", span(yard, 1), "10 0 10 4");
    }

    private static void onePierFace() {
        ArchYard yard = block(0, 0);
        yard.pier(0, 0, 0, 10, 0, 0);
        due("the left pier's way back is none", yard.whole(0), 200);
        yard.pier(0, 0, 0, 0, 0, 10);
        yard.pier(0, 1, 10, 0, 10, 10);
        due("the right pier's way back is none", yard.whole(0), 201);
        yard.pier(0, 1, 0, 0, 0, 10);
        due("both piers at one face", span(yard, 0) + " " + span(yard, 1), "0 0 0 10 0 10 0 0");
    }

    private static void tellSizesAndPlaces() {
        sentence("arch: n is not 1 to 10", EdgeArchesTest::sizesOfArches);
        sentence("arch: there are 12", EdgeArchesTest::twelveArches);
        sentence("arch: both at once, as its throws clause goes", EdgeArchesTest::sizeBeforeTwelve);
        sentence("An ARCH of n PLACES with nothing in them", EdgeArchesTest::nothingInThem);
        sentence("no such ARCH", EdgeArchesTest::noSuchArch);
        sentence("no such ARCH before what else is wrong", EdgeArchesTest::archBeforeArguments);
        sentence("pier: no such side", EdgeArchesTest::sidesOfPiers);
        sentence("pier: a number out of bounds", EdgeArchesTest::numbersOfPiers);
        sentence("whole, -100 to 100 each", EdgeArchesTest::farthestPiers);
        sentence("pier: or both points the same", EdgeArchesTest::pierWithoutLength);
        sentence("pier: a refused one isn't told", EdgeArchesTest::refusedPierIsNotTold);
        sentence("place: no such STONE", EdgeArchesTest::whatCanBePlaced);
        sentence("place, there, load: no such PLACE", EdgeArchesTest::noSuchPlace);
        sentence("one may be in several", EdgeArchesTest::oneStoneInSeveral);
        sentence("LOADS upon it go", EdgeArchesTest::loadsGo);
        sentence("unless it is a STONE", EdgeArchesTest::loadsStayUponStones);
        sentence("unless it is a STONE, also one that does not reach", EdgeArchesTest::loadsStayBesideStones);
        sentence("LOADS upon it, and no others", EdgeArchesTest::loadsThatStayAreTheSame);
        sentence("LOADS of its ARCH, and no others", EdgeArchesTest::loadsOfOtherArchesStay);
        sentence("place: a refused one lets LOADS stay", EdgeArchesTest::refusedPlaceKeepsLoads);
    }

    private static void tellLoadsAndSlopes() {
        sentence("load: NONE, and it has none more, if there are 6", EdgeArchesTest::sixLoads);
        sentence("load: or no STONE is there", EdgeArchesTest::loadsUponNoStone);
        sentence("load: or x is not within the STONE's least and greatest x", EdgeArchesTest::spotsWithinTheStone);
        sentence("load: x in tenths", EdgeArchesTest::farthestSpots);
        sentence("load: the GRAINS are not 1 to 100,000", EdgeArchesTest::grainsOfLoads);
        sentence("load: the exception before NONE", EdgeArchesTest::grainsBeforeNone);
        sentence("1 over 2 at first", EdgeArchesTest::slopesAtFirst);
        sentence("slope: it is none", EdgeArchesTest::slopesThatAreNone);
        sentence("0 to 20 over 1 to 20", EdgeArchesTest::farthestSlopes);
        sentence("A SLOPE of an ARCH", EdgeArchesTest::slopesOfEachArch);
    }

    private static void tellWholeAndJoints() {
        sentence("WHOLE if each PLACE has a STONE", EdgeArchesTest::wholeWithoutStones);
        sentence("a KEY not in the first or last PLACE", EdgeArchesTest::keysInPlaces);
        sentence("a KEY nowhere but with a STONE on each side", EdgeArchesTest::keysBesideNoStone);
        sentence("a SPRINGER only in the first or last PLACE", EdgeArchesTest::springersInPlaces);
        sentence("whole: the first PLACE at which it is not", EdgeArchesTest::theFirstPlaceThatIsNot);
        sentence("whole: looked at in this order", EdgeArchesTest::placesBeforePiersBeforeJoints);
        sentence("whole: 100 and the side before 200 and the JOINT", EdgeArchesTest::rightPierBeforeJoints);
        sentence("the last one between the last PLACE and the right PIER", EdgeArchesTest::tenthJoint);
        sentence("joint: no such JOINT, no such what", EdgeArchesTest::jointsThatAreNone);
        sentence("joint: -1000 if it is missing, or what should have it", EdgeArchesTest::missingJoints);
        sentence("lie on one line", EdgeArchesTest::facesOnOneLine);
        sentence("go opposite ways", EdgeArchesTest::facesThatGoOneWay);
        sentence("have more than a point in common", EdgeArchesTest::moreThanAPoint);
        sentence("the JOINT goes, as the left one's FACE does, from A to B", EdgeArchesTest::whatIsInCommon);
        sentence("what they have in common on a slope", EdgeArchesTest::whatIsInCommonOfSlopes);
        sentence("the first such FACE of the left one", EdgeArchesTest::firstFaceOfTheLeftOne);
        sentence("with the first such of the right one", EdgeArchesTest::firstFaceOfTheRightOne);
        sentence("the left one's first goes before the right one's", EdgeArchesTest::theLeftOneGoesFirst);
        sentence("A PIER has its one FACE", EdgeArchesTest::onePierFace);
    }

    public static void main(String[] args) {
        tellSizesAndPlaces();
        tellLoadsAndSlopes();
        tellWholeAndJoints();
        finish();
    }
}
