/** Each promise by itself: ordinary inputs, the document's edges and wrong inputs, worked out by hand. */
public final class PromiseTest extends Bench {
    private static void promise1New() {
        ArchYard yard = new ArchYard();
        for (int what = 0; what <= 3; what++) due("count of a new yard", yard.count(what), 0);
        due("NONE", ArchYard.NONE, -1);
        due("octet of a new yard", yard.octet(0), -1);
        due("bound of a new yard", yard.bound(0, 0), -1);
        due("weigh of a new yard", yard.weigh(4), -1);
        index("row without a rack", () -> yard.row(0, 0, 0));
        index("told without a stone", () -> yard.told(0, 0));
        index("whole without an arch", () -> yard.whole(0));
    }

    private static void promise2Rack() {
        ArchYard yard = new ArchYard();
        argument("rack(-1)", () -> yard.rack(-1));
        argument("rack(2)", () -> yard.rack(2));
        for (int i = 0; i < 8; i++) due("rack", yard.rack(i % 2), i);
        state("rack 9", () -> yard.rack(0));
        argument("rack 9 of no width", () -> yard.rack(2));
        due("racks", yard.count(0), 8);
        due("a row of a new rack", yard.tear(7, 39, 0), 0);
    }

    private static void promise3Row() {
        ArchYard yard = yard();
        yard.row(0, 0, 40);
        yard.put(0, 0, 39, 7);
        yard.row(0, 0, 40);
        due("put after row", yard.put(0, 0, 39, 7), 0);
        yard.row(0, 0, 0);
        due("put into nothing", yard.put(0, 0, 0, 7), Integer.MIN_VALUE);
        due("tear of nothing", yard.tear(0, 0, 0), 1);
        index("row of rack 2", () -> yard.row(2, 0, 1));
        index("row of rack -1", () -> yard.row(-1, 0, 1));
        index("row 40", () -> yard.row(0, 40, 41));
        index("row -1", () -> yard.row(0, -1, 1));
        argument("row of 41", () -> yard.row(0, 39, 41));
        argument("row of -1", () -> yard.row(0, 39, -1));
    }

    private static void promise4Put() {
        ArchYard yard = yard();
        yard.row(0, 5, 2);
        yard.row(1, 5, 2);
        yard.put(0, 5, 1, 0x12345);
        due("16 bits", yard.put(0, 5, 1, 40000), 0x2345);
        due("16 bits with a sign", yard.put(0, 5, 1, -100), 40000 - 65536);
        due("below 0", yard.put(0, 5, 1, 0), -100);
        yard.put(1, 5, 0, Integer.MAX_VALUE);
        due("32 bits", yard.put(1, 5, 0, 1), Integer.MAX_VALUE);
        due("no place 2", yard.put(1, 5, 2, 1), Integer.MIN_VALUE);
        due("no place -1", yard.put(1, 5, -1, 1), Integer.MIN_VALUE);
        due("no row", yard.put(1, 6, 0, 1), Integer.MIN_VALUE);
        index("put in row 40", () -> yard.put(1, 40, 0, 1));
        index("put in rack 2", () -> yard.put(2, 0, 0, 1));
    }

    private static void promise5Tear() {
        ArchYard yard = yard();
        yard.row(0, 0, 5);
        yard.put(0, 0, 4, 9);
        due("tear to all", yard.tear(0, 0, 5), 1);
        due("still there", yard.put(0, 0, 4, 9), 9);
        due("tear to more", yard.tear(0, 0, 6), 0);
        due("tear to 4", yard.tear(0, 0, 4), 1);
        due("gone", yard.put(0, 0, 4, 1), Integer.MIN_VALUE);
        due("tear back", yard.tear(0, 0, 5), 0);
        due("tear below 0", yard.tear(0, 0, -1), 0);
        due("tear a missing one", yard.tear(0, 1, 0), 0);
        index("tear in row -1", () -> yard.tear(0, -1, 0));
        index("tear in rack 2", () -> yard.tear(2, 0, 0));
    }

    private static void promise6Stone() {
        ArchYard yard = yard();
        due("a missing row", yard.stone(0, 0, 0, 0), -1);
        due("four numbers", stone(yard, 0, 0, 0, 0, 1, 0), -2);
        due("seven numbers", stone(yard, 0, 0, 0, 0, 9, 0, 9, 9, 1), -2);
        due("26 numbers", stone(yard, 0, 0, new int[26]), -2);
        due("24 numbers all 0", stone(yard, 0, 0, new int[24]), -4);
        due("101", stone(yard, 0, 0, 0, 0, 101, 0, 0, 0), -3);
        due("-101", stone(yard, 0, 0, 0, 0, 0, 0, 0, -101), -3);
        due("100 and -100", stone(yard, 0, 0, -100, -100, 100, -100, 100, 100, -100, 100), 0);
        due("its area", yard.told(0, 2), 80000);
        due("its weight", yard.told(0, 3), 200000);
        due("with the clock", stone(yard, 0, 0, 0, 0, 0, 10, 10, 10, 10, 0), -4);
        due("a face without length", stone(yard, 0, 0, 0, 0, 10, 0, 10, 0, 0, 10), -4);
        due("last and first corner the same", stone(yard, 0, 0, 0, 0, 10, 0, 0, 10, 0, 0), -4);
        due("all on one line", stone(yard, 0, 0, 0, 0, 5, 0, 10, 0), -4);
        due("a bow tie", stone(yard, 0, 0, 0, 0, 10, 10, 10, 0, 0, 10), -4);
        due("a spike", stone(yard, 0, 0, 0, 0, 10, 0, 10, 10, 10, 20, 10, 10, 0, 10), -4);
        due("a face that goes back", stone(yard, 0, 0, 0, 0, 20, 0, 10, 0, 10, 10), -4);
        due("a corner on another face", stone(yard, 0, 0, 0, 0, 10, 0, 10, 10, 5, 0, 0, 10), -4);
        due("corners that touch", stone(yard, 0, 0, 0, 0, 5, 5, 10, 0, 10, 10, 5, 5, 0, 10), -4);
        due("faces that lie on each other", stone(yard, 0, 0, 0, 0, 10, 0, 10, 5, 5, 5, 5, 0, 2, 0, 2, 5, 0, 5), -4);
        due("a straight corner", stone(yard, 0, 0, 0, 0, 5, 0, 10, 0, 10, 10, 0, 10), 1);
        due("an L", stone(yard, 0, 0, 0, 0, 10, 0, 10, 5, 5, 5, 5, 10, 0, 10), 2);
        due("a triangle", stone(yard, 0, 0, 0, 0, 1, 0, 0, 1), 3);
        argument("kind -1", () -> stone(yard, -1, 0, SQUARE));
        argument("kind 5", () -> stone(yard, 5, 0, SQUARE));
        argument("a filled with a part", () -> stone(yard, 3, 1, SQUARE));
        argument("a hollow of 100", () -> stone(yard, 4, 100, SQUARE));
        argument("a hollow of -1", () -> stone(yard, 4, -1, SQUARE));
        index("row 40, and no such kind", () -> yard.stone(9, 0, 40, 0));
        index("rack 2", () -> yard.stone(0, 2, 0, 0));
        due("a square", stone(yard, 0, 0, SQUARE), 4);
        for (int s = 5; s < 120; s++) due("stone", yard.stone(0, 1, 0, 0), s);
        due("stone 121", yard.stone(0, 1, 0, 0), -5);
        due("stone 121, unsound", stone(yard, 0, 0, new int[6]), -4);
        due("stones", yard.count(1), 120);
    }

    private static void promise7Told() {
        ArchYard yard = yard();
        stone(yard, 2, 0, -10, 0, -7, 0, -7, 1);
        due("kind", yard.told(0, 0), 2);
        due("corners", yard.told(0, 1), 3);
        due("area", yard.told(0, 2), 3);
        due("weight, 7.5 cut", yard.told(0, 3), 7);
        due("middle x", yard.told(0, 5) + "/" + yard.told(0, 6), "-8/1");
        due("middle y", yard.told(0, 7) + "/" + yard.told(0, 8), "1/3");
        due("spot", yard.told(0, 4), -80);
        due("corner 0 x", yard.told(0, 9), -10);
        due("corner 2 y", yard.told(0, 14), 1);
        argument("what 15", () -> yard.told(0, 15));
        argument("what -1", () -> yard.told(0, -1));
        index("stone 1", () -> yard.told(1, -1));
        index("stone -1", () -> yard.told(-1, 0));
        stone(yard, 1, 0, -2, 0, 0, 0, 0, 1);
        due("a spot of -6.67 cut towards 0", yard.told(1, 4), -6);
        due("a key's weight", yard.told(1, 3), 5);
        stone(yard, 3, 0, SQUARE);
        due("a filled one's weight", yard.told(2, 3), 325);
        stone(yard, 4, 1, SQUARE);
        due("a hollow one's weight, less 3.25 cut", yard.told(3, 3), 322);
        stone(yard, 4, 0, SQUARE);
        due("a hollow one of nothing", yard.told(4, 3), 325);
        // An L of a square of 10 by 10 less one of 5 by 5: (500 - 7.5 * 25) / 75.
        stone(yard, 0, 0, 0, 0, 10, 0, 10, 5, 5, 5, 5, 10, 0, 10);
        due("an L's middle", yard.told(5, 5) + "/" + yard.told(5, 6), "25/6");
        yard.put(1, 0, 0, 9);
        yard.tear(1, 0, 2);
        due("a stone never changes", yard.told(5, 9), 0);
    }

    private static void promise8Arch() {
        ArchYard yard = new ArchYard();
        argument("arch(0)", () -> yard.arch(0));
        argument("arch(11)", () -> yard.arch(11));
        for (int i = 0; i < 12; i++) due("arch", yard.arch(i % 10 + 1), i);
        state("arch 13", () -> yard.arch(10));
        argument("arch 13 of 11", () -> yard.arch(11));
        due("nothing there", yard.there(9, 9), -1);
        index("place 1 of 1", () -> yard.there(10, 1));
    }

    private static void promise9Pier() {
        ArchYard yard = block(0, 0);
        index("arch 1", () -> yard.pier(1, 5, 0, 0, 0, 0));
        index("arch -1", () -> yard.pier(-1, 0, 0, 0, 0, 1));
        argument("side 2", () -> yard.pier(0, 2, 0, 0, 0, 1));
        argument("side -1", () -> yard.pier(0, -1, 0, 0, 0, 1));
        for (int at = 0; at < 4; at++) {
            int[] c = {0, 1, 2, 3};
            c[at] = at % 2 == 0 ? 101 : -101;
            argument("far at " + at, () -> yard.pier(0, 0, c[0], c[1], c[2], c[3]));
        }
        argument("no length", () -> yard.pier(0, 0, 7, 7, 7, 7));
        due("it stays", yard.joint(0, 0, 3), 10);
        yard.pier(0, 0, 0, -100, 0, 4);
        due("another", yard.joint(0, 0, 3), 4);
        yard.pier(0, 0, 100, -100, -100, 100);
        due("none", yard.joint(0, 0, 3), -1000);
    }

    private static void promises10And11Place() {
        ArchYard yard = block(0, 0);
        index("stone 1", () -> yard.place(0, 0, 1));
        index("stone -3", () -> yard.place(0, 0, -3));
        index("place 1", () -> yard.place(0, 1, 0));
        index("place -1", () -> yard.place(0, -1, 0));
        index("arch 1", () -> yard.place(1, 0, 0));
        due("it stays", yard.there(0, 0), 0);
        yard.place(0, 0, -2);
        due("a wedge", yard.there(0, 0), -2);
        yard.place(0, 0, ArchYard.NONE);
        due("nothing", yard.there(0, 0), -1);
        index("there: place 1", () -> yard.there(0, 1));
        index("there: arch 1", () -> yard.there(1, 0));
        ArchYard beam = beam(0, 0);
        beam.load(0, 0, 50, 1);
        beam.load(0, 1, 150, 1);
        beam.load(0, 0, 60, 1);
        beam.place(0, 0, 1);
        due("loads stay upon another stone", beam.load(0, 1, 150, 1), 4);
        beam.place(0, 0, -2);
        due("loads of the place go, others stay", beam.load(0, 1, 150, 1), 3);
        beam.place(0, 1, -1);
        beam.place(0, 1, 1);
        due("loads go with nothing too", beam.load(0, 1, 150, 1), 1);
    }

    private static void promise12Load() {
        ArchYard yard = block(0, 0);
        index("arch 1", () -> yard.load(1, 0, 0, 0));
        index("place 1", () -> yard.load(0, 1, 0, 0));
        argument("no grains", () -> yard.load(0, 0, 0, 0));
        argument("100,001 grains", () -> yard.load(0, 0, 0, 100001));
        due("left of it", yard.load(0, 0, -1, 1), -1);
        due("right of it", yard.load(0, 0, 101, 1), -1);
        due("its left end", yard.load(0, 0, 0, 100000), 1);
        due("its right end", yard.load(0, 0, 100, 1), 2);
        for (int i = 3; i <= 6; i++) due("load", yard.load(0, 0, 50, 1), i);
        due("a seventh", yard.load(0, 0, 50, 1), -1);
        yard.arch(1);
        due("upon nothing", yard.load(1, 0, 50, 1), -1);
        yard.place(1, 0, -2);
        due("upon a wedge", yard.load(1, 0, 50, 1), -1);
        argument("upon a wedge, no grains", () -> yard.load(1, 0, 50, -1));
    }

    private static void promise13Slope() {
        ArchYard yard = block(0, 0);
        due("1 over 2 at first", yard.line(0, 0, 500, 250, -25000), -1);
        due("less push", yard.line(0, 0, 499, 250, -25000), 2);
        yard.slope(0, 20, 1);
        due("20 over 1", yard.line(0, 0, 13, 250, -500), -1);
        due("20 over 1, less", yard.line(0, 0, 12, 250, -500), 2);
        index("arch 1", () -> yard.slope(1, 21, 1));
        argument("21 over 1", () -> yard.slope(0, 21, 1));
        argument("-1 over 1", () -> yard.slope(0, -1, 1));
        argument("1 over 21", () -> yard.slope(0, 1, 21));
        argument("1 over 0", () -> yard.slope(0, 1, 0));
        due("it stays", yard.line(0, 0, 12, 250, -500), 2);
        yard.slope(0, 0, 20);
        due("0 over 20", yard.line(0, 0, 13, 250, -500), 2);
    }

    private static void promise14Whole() {
        due("a beam", beam(2, 0, 1, 3, 2).whole(0), -1);
        due("a springer within", beam(0, 0, 2, 0).whole(0), 2);
        due("a key first", beam(1, 0).whole(0), 0);
        due("a key last", beam(0, 1).whole(0), 1);
        due("a key alone", block(1, 0).whole(0), 0);
        due("a springer alone", block(2, 0).whole(0), -1);
        ArchYard yard = beam(0, 1, 0);
        due("a key between", yard.whole(0), -1);
        yard.place(0, 2, -2);
        due("a key beside a wedge", yard.whole(0), 1);
        yard.place(0, 2, -1);
        due("a key beside nothing", yard.whole(0), 1);
        yard.place(0, 0, -1);
        due("the first place", yard.whole(0), 0);
        index("arch 1", () -> yard.whole(1));
        ArchYard bare = yard();
        bare.arch(1);
        stone(bare, 0, 0, SQUARE);
        due("no stone", bare.whole(0), 0);
        bare.place(0, 0, 0);
        due("no pier", bare.whole(0), 100);
        bare.pier(0, 0, 0, 10, 0, 0);
        due("no right pier", bare.whole(0), 101);
        bare.pier(0, 1, 10, 0, 10, 10);
        due("a pier the wrong way", bare.whole(0), 200);
        bare.pier(0, 0, 0, 0, 0, 10);
        due("the other one too", bare.whole(0), 201);
        bare.pier(0, 1, 10, 20, 10, 10);
        due("a point in common", bare.whole(0), 201);
        bare.pier(0, 1, 10, 20, 10, 9);
        due("more than a point", bare.whole(0), -1);
    }

    private static void promise15Joint() {
        ArchYard yard = yard();
        yard.arch(2);
        // A comb with two teeth to the right, and a slab that both touch: the lower tooth's face comes first.
        int comb = stone(yard, 0, 0, 0, 0, 10, 0, 10, 4, 5, 4, 5, 6, 10, 6, 10, 10, 0, 10);
        int slab = stone(yard, 0, 0, 10, 2, 20, 2, 20, 12, 10, 12);
        yard.place(0, 0, comb);
        yard.place(0, 1, slab);
        due("the lower tooth", span(yard, 1), "10 2 10 4");
        int turned = stone(yard, 0, 0, 10, 6, 10, 10, 0, 10, 0, 0, 10, 0, 10, 4, 5, 4, 5, 6);
        yard.place(0, 0, turned);
        due("the upper tooth told first", span(yard, 1), "10 6 10 10");
        due("a pier that isn't told", span(yard, 0), "-1000 -1000 -1000 -1000");
        yard.pier(0, 0, 0, 3, 0, 7);
        due("a pier within", span(yard, 0), "0 3 0 7");
        yard.pier(0, 1, 20, 50, 20, -50);
        due("a pier beyond", span(yard, 2), "20 2 20 12");
        yard.place(0, 1, -2);
        due("a wedge", span(yard, 1), "-1000 -1000 -1000 -1000");
        // Two teeth of the right one against one long face: the right one's first such face.
        int back = stone(yard, 0, 0, 20, 0, 20, 10, 10, 10, 10, 6, 15, 6, 15, 4, 10, 4, 10, 0);
        int block = stone(yard, 0, 0, SQUARE);
        yard.place(0, 0, block);
        yard.place(0, 1, back);
        due("the right one's first", span(yard, 1), "10 6 10 10");
        int low = stone(yard, 0, 0, 0, 0, 8, 4, 0, 4);
        int high = stone(yard, 0, 0, -4, -2, 10, -2, 10, 5);
        yard.place(0, 0, low);
        yard.place(0, 1, high);
        due("a sloping one", span(yard, 1), "0 0 8 4");
        index("joint 3", () -> yard.joint(0, 3, 9));
        index("joint -1", () -> yard.joint(0, -1, 0));
        index("arch 1", () -> yard.joint(1, 0, 0));
        argument("what 4", () -> yard.joint(0, 0, 4));
        argument("what -1", () -> yard.joint(0, 0, -1));
    }

    private static void promise16Line() {
        ArchYard yard = block(0, 0);
        index("arch 1", () -> yard.line(1, 2, 0, 0, 0));
        argument("how 2", () -> yard.line(0, 2, 0, 0, 0));
        argument("how -1", () -> yard.line(0, -1, 0, 0, 0));
        argument("h", () -> yard.line(0, 0, BILLION + 1, 0, 0));
        argument("v", () -> yard.line(0, 0, 0, -BILLION - 1, 0));
        argument("m", () -> yard.line(0, 0, 0, 0, Integer.MIN_VALUE));
        due("the farthest", yard.line(0, 0, BILLION, BILLION, BILLION), 0);
        due("without push", yard.line(0, 1, 0, 250, 0), -1);
        due("a load ahead of joint 1", yard.load(0, 0, 100, 50), 1);
        due("250 no more", yard.line(0, 1, 0, 250, 0), -1);
        due("251", yard.line(0, 1, 0, 251, 0), 5);
        due("249", yard.line(0, 1, 0, 249, 0), 4);
        yard.place(0, 0, -1);
        state("not whole", () -> yard.line(0, 0, 0, 0, 0));
        argument("not whole, how 2", () -> yard.line(0, 2, 0, 0, 0));
        // Of a filled one A is 0, 2.5 and B is 0, 7.5: m is from -75 h to -25 h.
        ArchYard filled = block(3, 0);
        due("upon A", filled.line(0, 1, 1000, 163, -25000), -1);
        due("above A", filled.line(0, 1, 1000, 163, -24999), 0);
        due("upon B", filled.line(0, 1, 1000, 162, -75000), -1);
        due("below B", filled.line(0, 1, 1000, 162, -75001), 1);
        due("a hollow one likewise", block(4, 0).line(0, 1, 1000, 163, -24999), 0);
        // A springer may slide on its pier, but not on its neighbour.
        due("a springer", block(2, 0).line(0, 0, 0, 250, 0), -1);
        due("a springer at its pier", beam(2, 0).line(0, 0, 1000, 600, -50000), -1);
        due("a stone at its pier", beam(0, 0).line(0, 0, 1000, 600, -50000), 2);
        due("a springer at a stone", beam(2, 0).line(0, 0, 1000, -1, -50000), 7);
        due("a springer at the right pier", beam(0, 2).line(0, 0, 1000, 400, -50000), -1);
        due("a stone at the right pier", beam(0, 0).line(0, 0, 1000, 400, -50000), 11);
        // Joint 1 is passed at a height of 2, which is not in its middle half.
        due("a plain neighbour", beam(0, 0).line(0, 1, 10000, 1000, -125000), -1);
        due("a filled neighbour", beam(0, 3).line(0, 1, 10000, 1000, -125000), 4);
        pushBelowZero();
    }

    /** Joints that go downward are kept by lines whose push is below 0, so h itself is the first broken. */
    private static void pushBelowZero() {
        ArchYard yard = yard();
        stone(yard, 0, 0, 0, 0, 0, 10, -10, 10, -10, 0);
        yard.arch(1);
        yard.place(0, 0, 0);
        yard.pier(0, 0, 0, 10, 0, 0);
        yard.pier(0, 1, -10, 0, -10, 10);
        due("joint 0 downward", span(yard, 0), "0 10 0 0");
        due("a push below 0", yard.line(0, 1, -1000, 250, 50000), 8);
        due("a push of 0", yard.line(0, 1, 0, 250, 0), -1);
    }

    private static void promise17Judge() {
        ArchYard yard = block(0, 0);
        index("arch 1", () -> yard.judge(1, 2));
        argument("how 2", () -> yard.judge(0, 2));
        due("with slopes", yard.judge(0, 0), 1);
        due("the least push", number(yard, 0), "500");
        yard.place(0, 0, -2);
        argument("how -1, not whole", () -> yard.judge(0, -1));
        state("not whole", () -> yard.judge(0, 0));
        due("as it was", number(yard, 0), "500");
        yard.place(0, 0, 0);
        yard.slope(0, 0, 1);
        due("as it was, of another slope", number(yard, 0), "500");
        due("level joints only", yard.judge(0, 0), 0);
        due("nothing of the line before", boundsOf(yard, 0) + boundsOf(yard, 1), "");
        due("without slopes", yard.judge(0, 1), 1);
        due("nothing of NEVER", boundsOf(yard, 2), "");
        due("the least push without slopes", number(yard, 0), "0");
    }

    private static void promise18Number() {
        ArchYard yard = block(3, 0);
        state("none judged", () -> yard.number(0));
        state("none judged, no such", () -> yard.number(6));
        yard.judge(0, 1);
        due("LEAST", number(yard, 0) + " " + number(yard, 1) + " " + number(yard, 2), "0 325/2 0");
        // Of the greatest push the least lift is from 7.5 up at the left to 2.5 up at the right, 10 wide.
        due("GREATEST", number(yard, 3) + " " + number(yard, 5) + " " + number(yard, 4),
            "1000000000 -75000000000 -999999675/2");
        argument("what 6", () -> yard.number(6));
        argument("what -1", () -> yard.number(-1));
        due("the page stays", page(yard), "-999999675/2");
        yard.slope(0, 0, 1);
        yard.judge(0, 0);
        state("no safe line", () -> yard.number(0));
        state("no safe line, no such", () -> yard.number(9));
        due("the page stays again", page(yard), "-999999675/2");
    }

    private static void promise19Bound() {
        ArchYard yard = block(0, 0);
        yard.judge(0, 0);
        due("LEAST", boundsOf(yard, 0), "1 2 5 7");
        due("GREATEST", boundsOf(yard, 1), "1 7 9");
        due("NEVER", boundsOf(yard, 2), "");
        due("before the first", yard.bound(0, -1), -1);
        due("which 3", yard.bound(3, 0), -1);
        due("which -1", yard.bound(-1, 0), -1);
        due("far behind", yard.bound(0, Integer.MAX_VALUE), -1);
        yard.judge(0, 1);
        due("LEAST without slopes", boundsOf(yard, 0), "0 1 4 5 8");
        greatestLift();
    }

    /** A block upon the left pier and against the right one: the push is at most the lift, and that a billion. */
    private static void greatestLift() {
        ArchYard yard = block(0, 0);
        yard.pier(0, 0, 10, 0, 0, 0);
        yard.slope(0, 1, 1);
        due("it stands", yard.judge(0, 0), 1);
        due("GREATEST by the frame", number(yard, 3) + " " + number(yard, 4) + " " + number(yard, 5), "1000000000 1000000000 0");
        due("the frame is touched", boundsOf(yard, 1), "1 3 9 11");
    }

    private static void promise20Weigh() {
        ArchYard yard = block(3, 0);
        yard.slope(0, 0, 3);
        yard.judge(0, 0);
        due("NEVER of two", boundsOf(yard, 2), "2 7");
        due("its weights", weight(yard, 0) + " " + weight(yard, 1) + " " + weight(yard, 4), "1 1 -9750");
        due("no third", yard.weigh(2), -1);
        due("no fifth", yard.weigh(5), -1);
        due("none before", yard.weigh(-1), -1);
        due("the page stays", page(yard), "-9750");
        // A stone that is wider below, with hardly any slope: (-90, -205), (110, 195), (-90, 205) times h, v.
        ArchYard wedge = yard();
        stone(wedge, 0, 0, 0, 0, 20, 0, 15, 10, 5, 10);
        wedge.arch(1);
        wedge.place(0, 0, 0);
        wedge.pier(0, 0, 0, 0, 5, 10);
        wedge.pier(0, 1, 15, 10, 20, 0);
        wedge.slope(0, 1, 20);
        due("it slides out", wedge.judge(0, 0), 0);
        due("NEVER of three", boundsOf(wedge, 2), "2 3 7");
        due("weights of three", weight(wedge, 0) + " " + weight(wedge, 1) + " " + weight(wedge, 2), "401 369 50");
        due("what is left", weight(wedge, 4), "-7687500");
        due("no fourth", wedge.weigh(3), -1);
        wedge.judge(0, 1);
        due("nothing is left", wedge.weigh(4), -1);
        due("nor a first", wedge.weigh(0), -1);
    }

    /**
     * Of the V the bounds are -100 h - m; 120 h + m; 20 h - 100 v + m + 5000; -100 h + 200 v - m - 20000,
     * which go away when taken 9, 8, 2 and 1 times.
     */
    private static void neverOfFour() {
        ArchYard yard = hanging();
        due("it hangs", yard.judge(0, 1), 0);
        due("NEVER of four", boundsOf(yard, 2), "0 1 5 8");
        due("weights of four", weight(yard, 0) + " " + weight(yard, 1) + " " + weight(yard, 2) + " " + weight(yard, 3),
            "9 8 2 1");
        due("what is left of four", weight(yard, 4), "-10000");
        state("no number", () -> yard.number(0));
    }

    private static void promise21Room() {
        due("a block", block(0, 0).room(0), 64);
        due("a filled block", block(3, 0).room(0), 64);
        due("a V", hanging().room(0), -1);
        due("a bridge with its load even", bridge(0, 0, 0, 0).room(0), 64);
        // With the weights' bends as r to 1, joints of half height t must give t (4 r + 4) >= 10 (r - 1).
        due("a bridge with r = 2: t from 5/6 on", bridge(200, 0, 0, 0).room(0), 10);
        due("a filled bridge with r = 1.2: t from 5/22 on, of a half", bridge(26, 3, 3, 3).room(0), 34);
        ArchYard yard = block(0, 0);
        index("arch 1", () -> yard.room(1));
        yard.place(0, 0, -1);
        state("not whole", () -> yard.room(0));
    }

    private static void promise22Strike() {
        ArchYard yard = beam(0, 0, 0);
        index("place 3", () -> yard.strike(0, 3, 1));
        index("place 3 last", () -> yard.strike(0, 1, 3));
        index("place -1", () -> yard.strike(0, -1, -2));
        index("arch 1", () -> yard.strike(1, 0, 0));
        argument("last before first", () -> yard.strike(0, 1, 0));
        due("one alone", yard.strike(0, 1, 1), true);
        due("all", yard.strike(0, 0, 2), true);
        yard.slope(0, 0, 1);
        due("none without slope", yard.strike(0, 0, 0), false);
        yard.place(0, 2, -1);
        state("not whole", () -> yard.strike(0, 0, 1));
        argument("not whole, last before first", () -> yard.strike(0, 1, 0));
        ArchYard springing = beam(2, 0, 2);
        springing.slope(0, 0, 1);
        due("a springer hangs on its pier", springing.strike(0, 0, 0), true);
        due("the stone between hangs on none", springing.strike(0, 1, 1), false);
        due("nor do all three", springing.strike(0, 0, 2), false);
        ArchYard sliding = leaning(-6, -2, 2, -6);
        due("the first two", sliding.strike(0, 0, 1), true);
        due("the last", sliding.strike(0, 2, 2), false);
        due("the last two", sliding.strike(0, 1, 2), false);
        sliding.load(0, 1, 250, 100000);
        due("loads are left aside", sliding.strike(0, 0, 1), true);
    }

    private static void promise23Order() {
        ArchYard yard = beam(0, 0, 0);
        due("from the first", yard.order(0, 0) + " " + yard.order(0, 1) + " " + yard.order(0, 2), "0 1 2");
        due("no fourth", yard.order(0, 3), -1);
        due("none before", yard.order(0, -1), -1);
        yard.slope(0, 0, 1);
        due("none", yard.order(0, 0), -1);
        due("a flat arch", ordered(leaning(-6, -2, 2, 6)), "0 1 2");
        due("its last stone slides out", ordered(leaning(-6, -2, 2, -6)), "");
        ArchYard changed = leaning(-6, -2, 2, -6);
        due("at first", ordered(changed), "");
        changed.slope(0, 20, 1);
        due("with another slope", ordered(changed), "0 1 2");
        ArchYard loaded = leaning(-6, -2, 2, 6);
        loaded.load(0, 0, -10, 100000);
        due("with a load it fails", loaded.judge(0, 0), 0);
        due("loads are left aside", ordered(loaded), "0 1 2");
        index("arch 1", () -> yard.order(1, 0));
        yard.place(0, 0, -1);
        state("not whole", () -> yard.order(0, 0));
    }

    private static void promises24And25Octet() {
        ArchYard yard = block(0, 0);
        yard.judge(0, 0);
        yard.number(2);
        due("six bytes", yard.count(3), 6);
        due("the first", yard.octet(0), (int) '-');
        due("the last", yard.octet(5), (int) '0');
        due("behind", yard.octet(6), -1);
        due("before", yard.octet(-1), -1);
        due("racks", yard.count(0), 2);
        due("stones", yard.count(1), 1);
        due("arches", yard.count(2), 1);
        due("count(4)", yard.count(4), -1);
        due("count(-1)", yard.count(-1), -1);
    }

    public static void main(String[] args) {
        promise1New();
        promise2Rack();
        promise3Row();
        promise4Put();
        promise5Tear();
        promise6Stone();
        promise7Told();
        promise8Arch();
        promise9Pier();
        promises10And11Place();
        promise12Load();
        promise13Slope();
        promise14Whole();
        promise15Joint();
        promise16Line();
        promise17Judge();
        promise18Number();
        promise19Bound();
        promise20Weigh();
        neverOfFour();
        promise21Room();
        promise22Strike();
        promise23Order();
        promises24And25Octet();
        finish();
    }
}
