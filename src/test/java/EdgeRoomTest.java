/** The edges that promises 21 to 23 and the terms ROOM, STRUCK and ORDER name, each sentence by itself. */
public final class EdgeRoomTest extends Bench {
    private static final int[] NO_ARCHES = {-1, 1, 12, LEAST_INT, GREATEST_INT};

    private static void noSuchArch() {
        ArchYard yard = block(0, 0);
        for (int arch : NO_ARCHES) {
            index("room of " + arch, () -> yard.room(arch));
            index("strike of " + arch, () -> yard.strike(arch, 0, 0));
            index("order of " + arch, () -> yard.order(arch, 0));
        }
        index("strike of 1, last before first", () -> yard.strike(1, 0, -1));
    }

    private static void notWhole() {
        ArchYard yard = beam(0, 0);
        yard.place(0, 1, WEDGE);
        state("room", () -> yard.room(0));
        state("strike of what is there", () -> yard.strike(0, 0, 0));
        for (int k = -1; k <= 2; k++) {
            int one = k;
            state("order " + k, () -> yard.order(0, one));
        }
        yard.place(0, 1, 1);
        // Two stones bend the line by a little, which three points of one height don't.
        due("room again", yard.room(0), 63);
        due("strike again", yard.strike(0, 0, 0), true);
        due("order again", yard.order(0, 1), 1);
    }

    private static void allTheRoom() {
        due("a block", block(0, 0).room(0), 64);
        due("a filled block", block(3, 0).room(0), 64);
        due("a bridge whose middles bear it", bridge(0, 0, 0, 0).room(0), 64);
        due("a filled bridge", bridge(0, 3, 3, 3).room(0), 64);
    }

    /** With bends as r to 1, r = 1 + load / 200, half heights t must give 4 t (r + 1) >= 10 (r - 1). */
    private static void roomBetween() {
        due("t from 1/160 on", bridge(1, 0, 0, 0).room(0), 63);
        due("t from 1/80 on", bridge(2, 0, 0, 0).room(0), 63);
        due("t from 5/268 on", bridge(3, 0, 0, 0).room(0), 62);
        due("t from 5/6 on", bridge(200, 0, 0, 0).room(0), 10);
        due("t from 0.998 on", bridge(266, 0, 0, 0).room(0), 0);
    }

    private static void noneForZero() {
        due("t from 1.0007 on", bridge(267, 0, 0, 0).room(0), NONE);
        due("a V", hanging().room(0), NONE);
        due("too great a push", bridge(100000, 0, 0, 0).room(0), NONE);
    }

    /** Of filled stones r is 1 + load / 130, and t is 1 / 2 at first. */
    private static void roomAtFilled() {
        due("t from 5/22 on, of a half", bridge(26, 3, 3, 3).room(0), 34);
        due("hollow ones of nothing likewise", bridge(26, 4, 4, 4).room(0), 34);
        // Only joints 1 and 2 are halved: r is 1.2, and s of them must give 2.5 s (r + 1) >= 10 (r - 1).
        due("the middle one alone: s from 4/11 on", bridge(33, 0, 3, 0).room(0), 40);
    }

    /**
     * The block stands upon 4 to 10 and holds a pier up at 0 to 2: it must stand upon 5 or less, or it would
     * have to be held down there. By k 64ths of 3 that goes to 21. Points, at 64, could hold it down.
     */
    private static void eachSmallerOne() {
        ArchYard yard = block(0, 0);
        yard.pier(0, 0, 10, 0, 4, 0);
        yard.pier(0, 1, 0, 10, 2, 10);
        due("whole", yard.whole(0), NONE);
        due("safe to 21 and at 64", yard.room(0), 21);
        ArchYard hung = block(0, 0);
        hung.pier(0, 0, 0, 10, 4, 10);
        hung.pier(0, 1, 6, 10, 10, 10);
        due("safe at 64 alone", hung.room(0), NONE);
    }

    /**
     * A bridge of the widest kind, 64 wide each, 40 high and 140 up, so that 80 t (r + 1) >= 140 (r - 1), where r is
     * 1 + load / 25600; of filled stones, whose joints are halved, 1 + load / 16640.
     */
    private static ArchYard wideBridge(int kind, int load) {
        ArchYard yard = yard();
        stone(yard, kind, 0, -96, -100, -32, 40, -32, 80, -96, -60);
        stone(yard, kind, 0, -32, 40, 32, 40, 32, 80, -32, 80);
        stone(yard, kind, 0, 32, 40, 96, -100, 96, -60, 32, 80);
        yard.arch(3);
        for (int p = 0; p < 3; p++) yard.place(0, p, p);
        yard.pier(0, 0, -96, -100, -96, -60);
        yard.pier(0, 1, 96, -60, 96, -100);
        yard.load(0, 0, -640, load);
        return yard;
    }

    private static void roomOfGreatNumbers() {
        due("t from 0.6466 on", wideBridge(0, 30000).room(0), 22);
        due("r = 11/3 but for a grain: t from 1 on", wideBridge(0, 68266).room(0), 0);
        due("a grain more", wideBridge(0, 68267).room(0), NONE);
        due("filled: t from 0.4572 on", wideBridge(3, 5000).room(0), 34);
        due("filled, nearly even: t from 0.0001 on", wideBridge(3, 1).room(0), 63);
        due("filled, r = 9/5: t from 1 on", wideBridge(3, 13312).room(0), 0);
        due("filled, a grain more", wideBridge(3, 13313).room(0), NONE);
    }

    private static void roomWithoutSlopes() {
        ArchYard yard = block(0, 0);
        yard.slope(0, 0, 1);
        due("no safe line with slopes", yard.judge(0, 0), 0);
        due("all the room", yard.room(0), 64);
    }

    private static void strikeNoSuchPlace() {
        ArchYard yard = beam(0, 0, 0);
        for (int p : new int[] {-1, 3, 10, LEAST_INT, GREATEST_INT}) {
            index("from " + p, () -> yard.strike(0, p, 2));
            index("to " + p, () -> yard.strike(0, 0, p));
            index("from and to " + p, () -> yard.strike(0, p, p));
        }
        index("from 3 to 1", () -> yard.strike(0, 3, 1));
        index("from 1 to -1", () -> yard.strike(0, 1, -1));
    }

    private static void strikeLastBelowFirst() {
        ArchYard yard = beam(0, 0, 0);
        argument("1 to 0", () -> yard.strike(0, 1, 0));
        argument("2 to 0", () -> yard.strike(0, 2, 0));
        argument("2 to 1", () -> yard.strike(0, 2, 1));
        due("0 to 0", yard.strike(0, 0, 0), true);
        due("2 to 2", yard.strike(0, 2, 2), true);
        due("0 to 2", yard.strike(0, 0, 2), true);
        yard.place(0, 0, NONE);
        argument("1 to 0 of what is not whole", () -> yard.strike(0, 1, 0));
        index("1 to 3 of what is not whole", () -> yard.strike(0, 1, 3));
    }

    private static void strikeWithSlopes() {
        ArchYard yard = beam(0, 0);
        yard.slope(0, 0, 1);
        due("none of weight without slope", yard.strike(0, 0, 0), false);
        yard.slope(0, 1, 20);
        due("with a little", yard.strike(0, 0, 1), true);
    }

    /** V: each stone alone goes down, or up; both together go down and up. */
    private static void rowsOfAV() {
        ArchYard yard = hanging();
        yard.slope(0, 20, 1);
        due("the first", yard.strike(0, 0, 0), true);
        due("the second", yard.strike(0, 1, 1), true);
        due("both", yard.strike(0, 0, 1), false);
        due("so there is no order", ordered(yard), "");
    }

    private static void strikeWithoutLoads() {
        ArchYard yard = bridge(100000, 0, 0, 0);
        yard.slope(0, 20, 1);
        due("with its load", yard.judge(0, 0), 0);
        due("without", yard.strike(0, 0, 2), true);
        due("the loaded one alone", yard.strike(0, 0, 0), true);
        due("the order without", ordered(yard), "0 1 2");
        due("the load is there still", yard.judge(0, 0), 0);
    }

    private static void piersAsInTheArch() {
        ArchYard yard = beam(2, 0, 2);
        yard.slope(0, 0, 1);
        due("a springer at its left pier", yard.strike(0, 0, 0), true);
        due("a springer at its right pier", yard.strike(0, 2, 2), true);
        due("a stone between", yard.strike(0, 1, 1), false);
        due("a springer and a stone", yard.strike(0, 0, 1), false);
        ArchYard alone = block(2, 0);
        alone.slope(0, 0, 1);
        due("a springer at both", alone.strike(0, 0, 0), true);
    }

    /** From 10 up at most to 12 up at least, over 10: with 1 over 4 it can't be 14.5. */
    private static void jointsOfTheArchThere() {
        for (int kind : new int[] {0, 3, 4}) {
            ArchYard yard = yard();
            stone(yard, 0, 0, 0, 0, 10, 12, 10, 22, 0, 10);
            stone(yard, kind, 0, 10, 12, 20, 12, 20, 22, 10, 22);
            yard.arch(2);
            yard.place(0, 0, 0);
            yard.place(0, 1, 1);
            yard.pier(0, 0, 0, 0, 0, 10);
            yard.pier(0, 1, 20, 22, 20, 12);
            yard.slope(0, 1, 4);
            due("the first one beside a stone of kind " + kind, yard.strike(0, 0, 0), kind == 0);
            due("the second alone", yard.strike(0, 1, 1), true);
        }
    }

    private static void orderFromZeroOn() {
        ArchYard yard = beam(0, 0, 0, 0, 0, 0, 0, 0, 0, 0);
        for (int k = 0; k < 10; k++) due("place " + k, yard.order(0, k), k);
        for (int k : new int[] {-1, 10, LEAST_INT, GREATEST_INT}) due("order " + k, yard.order(0, k), NONE);
        ArchYard one = block(0, 0);
        due("of one", one.order(0, 0) + " " + one.order(0, 1), "0 -1");
    }

    private static void orderWithoutOne() {
        ArchYard yard = leaning(-6, -2, 2, -6);
        due("the first two can be struck", yard.strike(0, 0, 1), true);
        due("all can't", yard.strike(0, 0, 2), false);
        for (int k = -1; k <= 3; k++) due("order " + k, yard.order(0, k), NONE);
    }

    private static void orderOfWhatIsThere() {
        ArchYard yard = leaning(-6, -2, 2, 6);
        due("at first", ordered(yard), "0 1 2");
        yard.slope(0, 0, 1);
        due("without slope", ordered(yard), "0 1 2");
        yard.place(0, 2, stone(yard, 0, 0, 40, 0, 60, 0, 54, 10, 42, 10));
        yard.pier(0, 1, 54, 10, 60, 0);
        due("with a stone that slides out", yard.whole(0) + ordered(yard), "-1");
        yard.slope(0, 20, 1);
        due("with a great slope", ordered(yard), "0 1 2");
        yard.pier(0, 0, 1, 9, 2, 5);
        state("with a pier elsewhere", () -> yard.order(0, 0));
    }

    private static void ordersOfEachArch() {
        ArchYard yard = block(0, 0);
        yard.arch(1);
        yard.place(1, 0, 0);
        yard.pier(1, 0, 0, 0, 0, 10);
        yard.pier(1, 1, 10, 10, 10, 0);
        yard.slope(1, 0, 1);
        due("arch 0", yard.order(0, 0), 0);
        due("arch 1", yard.order(1, 0), NONE);
        due("arch 0 again", yard.order(0, 0), 0);
    }

    public static void main(String[] args) {
        sentence("room, strike, order: no such ARCH", EdgeRoomTest::noSuchArch);
        sentence("room, strike, order: it is not WHOLE", EdgeRoomTest::notWhole);
        sentence("ROOM: k 64", EdgeRoomTest::allTheRoom);
        sentence("ROOM: k 0 to 64", EdgeRoomTest::roomBetween);
        sentence("ROOM: NONE if there is none for 0", EdgeRoomTest::noneForZero);
        sentence("ROOM: at a FILLED: of what its middle half is", EdgeRoomTest::roomAtFilled);
        sentence("ROOM: for which, and for each smaller one", EdgeRoomTest::eachSmallerOne);
        sentence("ROOM of numbers beyond 64 bits", EdgeRoomTest::roomOfGreatNumbers);
        sentence("ROOM, without slopes", EdgeRoomTest::roomWithoutSlopes);
        sentence("strike: no such PLACE", EdgeRoomTest::strikeNoSuchPlace);
        sentence("strike: j is below i", EdgeRoomTest::strikeLastBelowFirst);
        sentence("STRUCK if it has a SAFE line with slopes", EdgeRoomTest::strikeWithSlopes);
        sentence("A ROW of PLACES i to j alone", EdgeRoomTest::rowsOfAV);
        sentence("LOADS left aside", EdgeRoomTest::strikeWithoutLoads);
        sentence("BOUNDS for PIERS as in the ARCH", EdgeRoomTest::piersAsInTheArch);
        sentence("JOINTS being the JOINTS of the ARCH there", EdgeRoomTest::jointsOfTheArchThere);
        sentence("order: k from 0 on; NONE", EdgeRoomTest::orderFromZeroOn);
        sentence("order: NONE without one", EdgeRoomTest::orderWithoutOne);
        sentence("order: of the ARCH as it is", EdgeRoomTest::orderOfWhatIsThere);
        sentence("order: of each ARCH its own", EdgeRoomTest::ordersOfEachArch);
        finish();
    }
}
