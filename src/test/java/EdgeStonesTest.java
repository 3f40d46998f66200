import java.util.Arrays;

/** The edges that promises 6 and 7 and the terms of STONES name, each sentence by itself. */
public final class EdgeStonesTest extends Bench {
    private static final int[] ROUND = {0, 0, 10, 0, 20, 5, 25, 15, 25, 25, 20, 35, 10, 40, 0, 40, -10, 35, -15, 25, -15, 15,
        -10, 5};
    private static final int[] WIDEST = {-100, -100, 100, -100, 100, 100, -100, 100};

    private static String told(ArchYard yard, int s, int... whats) {
        StringBuilder text = new StringBuilder();
        for (int what : whats) text.append(text.length() == 0 ? "" : " ").append(yard.told(s, what));
        return text.toString();
    }

    private static void rowIsMissing() {
        ArchYard yard = yard();
        due("row 0", yard.stone(0, 0, 0, 0), -1);
        due("row 39", yard.stone(4, 1, 39, 99), -1);
        fill(yard, 0, 1, TRIANGLE);
        due("beside one that is there", yard.stone(0, 0, 0, 0), -1);
        due("the one that is there", yard.stone(0, 0, 1, 0), 0);
        due("of the other rack", yard.stone(0, 1, 1, 0), -1);
        due("stones", yard.count(1), 1);
    }

    private static void lessThanSix() {
        ArchYard yard = yard();
        for (int n : new int[] {0, 2, 4}) due(n + " numbers", stone(yard, 0, 0, new int[n]), -2);
        due("six numbers", stone(yard, 0, 0, TRIANGLE), 0);
        yard.tear(1, 0, 4);
        due("six torn to four", yard.stone(0, 1, 0, 0), -2);
        due("stones", yard.count(1), 1);
    }

    private static void moreThan24() {
        ArchYard yard = yard();
        due("24 numbers", stone(yard, 0, 0, ROUND), 0);
        due("its corners", yard.told(0, 1), 12);
        for (int n : new int[] {26, 40}) due(n + " numbers", stone(yard, 0, 0, Arrays.copyOf(ROUND, n)), -2);
        fill(yard, 0, 0, Arrays.copyOf(ROUND, 40));
        yard.tear(0, 0, 24);
        due("40 torn to 24", yard.stone(0, 0, 0, 0), 1);
    }

    private static void oddInNumber() {
        ArchYard yard = yard();
        for (int n : new int[] {1, 3, 5, 7, 9, 23, 25, 39}) due(n + " numbers", stone(yard, 0, 0, Arrays.copyOf(ROUND, n)), -2);
        due("stones", yard.count(1), 0);
    }

    private static void numbersTooFar() {
        ArchYard yard = yard();
        fill(yard, 1, 0, WIDEST);
        due("100 and -100", yard.stone(0, 1, 0, 0), 0);
        for (int i = 0; i < 8; i++) {
            yard.put(1, 0, i, WIDEST[i] > 0 ? 101 : -101);
            due("one farther at " + i, yard.stone(0, 1, 0, 0), -3);
            yard.put(1, 0, i, WIDEST[i]);
        }
        for (int v : new int[] {65536, LEAST_INT, GREATEST_INT}) {
            yard.put(1, 0, 7, v);
            due("the last is " + v, yard.stone(0, 1, 0, 0), -3);
        }
        due("stones", yard.count(1), 1);
    }

    private static void farNumbersOf16Bits() {
        ArchYard yard = yard();
        fill(yard, 0, 0, 65536, -65536, 65546, 0, 131072, 10);
        due("numbers whose lowest bits are near", yard.stone(0, 0, 0, 0), 0);
        due("corner 1", told(yard, 0, 11, 12), "10 0");
        yard.put(0, 0, 1, 32768);
        due("lowest bits that are far", yard.stone(0, 0, 0, 0), -3);
        fill(yard, 1, 0, 65536, 0, 65546, 0, 65536, 10);
        due("the same of 32 bits", yard.stone(0, 1, 0, 0), -3);
    }

    /**
     * A shape is sound, or not, from whichever corner it is told, however it is turned by a quarter and
     * wherever it stands; told with the clock it never is.
     */
    private static void shape(String what, boolean sound, int... corners) {
        int n = corners.length / 2;
        for (int quarter = 0; quarter < 4; quarter++) {
            for (int[] shift : new int[][] {{0, 0}, {37, -41}, {-58, 29}}) {
                int[] moved = new int[2 * n];
                for (int i = 0; i < n; i++) {
                    int[] point = {corners[2 * i], corners[2 * i + 1]};
                    for (int turn = 0; turn < quarter; turn++) point = new int[] {-point[1], point[0]};
                    moved[2 * i] = point[0] + shift[0];
                    moved[2 * i + 1] = point[1] + shift[1];
                }
                fromEachCorner(what + ", turned by " + quarter + ", moved by " + shift[0], sound, moved);
            }
        }
    }

    private static void fromEachCorner(String what, boolean sound, int[] corners) {
        int n = corners.length / 2;
        for (int first = 0; first < n; first++) {
            ArchYard yard = yard();
            int[] round = new int[2 * n];
            int[] back = new int[2 * n];
            for (int i = 0; i < 2 * n; i++) {
                round[i] = corners[(2 * first + i) % (2 * n)];
                back[2 * (n - 1 - i / 2) + i % 2] = round[i];
            }
            due(what + ", from " + first, stone(yard, 0, 0, round), sound ? 0 : -4);
            due(what + ", from " + first + " with the clock", stone(yard, 0, 0, back), -4);
        }
    }

    private static void facesCross() {
        shape("a bow tie", false, 0, 0, 10, 10, 10, 0, 0, 10);
        shape("a star", false, 0, 10, -6, -8, 9, 3, -9, 3, 6, -8);
        shape("a spike through a face", false, 0, 0, 20, 0, 20, 10, 10, -5, 0, 10);
        shape("a spike short of it", true, 0, 0, 20, 0, 20, 10, 10, 5, 0, 10);
        shape("a twisted end", false, 0, 0, 10, 0, 10, 10, 5, 10, 5, -5);
        shape("faces that cross at no whole point", false, 0, 0, 10, 1, 10, 9, 3, 0, 0, 8);
    }

    private static void facesTouch() {
        shape("a corner upon a face from within", false, 0, 0, 10, 0, 10, 10, 5, 0, 0, 10);
        shape("one short of it", true, 0, 0, 10, 0, 10, 10, 5, 1, 0, 10);
        shape("a corner upon a face from without", false, 0, 0, 20, 0, 20, 20, 4, 20, 5, 10, 10, 18, 10, 10, 0, 10);
        shape("one short of it too", true, 0, 0, 20, 0, 20, 20, 4, 20, 5, 11, 10, 18, 10, 10, 0, 10);
        shape("two corners at one point", false, 0, 0, 5, 5, 10, 0, 10, 10, 5, 5, 0, 10);
        shape("one beside each other", true, 0, 0, 5, 4, 10, 0, 10, 10, 5, 5, 0, 10);
        shape("a way there and back", false, 0, 0, 10, 0, 0, 0, 0, 10);
        shape("a corner upon a sloping face", false, 0, 0, 12, 8, 10, 20, 6, 4, 0, 20);
        shape("a corner beside a sloping face", true, 0, 0, 12, 8, 10, 20, 6, 5, 0, 20);
    }

    /** Of the face from -100, -100 to 100, 99 the point -99, -99 is as little to the left as can be. */
    private static void facesThatNearlyTouch() {
        fromEachCorner("a sliver", true, new int[] {-100, -100, 100, 99, 100, 100, -99, -99, -100, 100});
        fromEachCorner("a closed one", false, new int[] {-100, -100, 100, 100, 99, 100, -99, -99, -100, 100});
    }

    private static void facesUponEachOther() {
        shape("two on one line, over each other", false, 0, 0, 10, 0, 10, 5, 5, 5, 5, 0, 2, 0, 2, 5, 0, 5);
        shape("two on one line, end to end", false, 0, 0, 5, 0, 5, 5, 4, 5, 5, 0, 9, 0, 9, 9, 0, 9);
        shape("two on one line, apart", true, 0, 0, 4, 0, 4, 5, 6, 5, 6, 0, 10, 0, 10, 9, 0, 9);
        shape("two on one sloping line, apart", true, 0, 0, 4, 4, 2, 8, 4, 10, 6, 6, 10, 10, 0, 20);
    }

    private static void neighboursShareMore() {
        shape("a face halfway back", false, 0, 0, 20, 0, 10, 0, 10, 10);
        shape("a face all the way back", false, 0, 0, 10, 0, 10, 10, 10, 20, 10, 10, 0, 10);
        shape("a face farther back", false, 0, 0, 10, 0, -5, 0, 0, 10);
        shape("sloping back", false, 0, 0, 6, 3, 2, 1, 0, 10);
        shape("a triangle on one line", false, 0, 0, 10, 0, 5, 0);
    }

    private static void neighboursShareTheirCorner() {
        shape("a triangle", true, TRIANGLE);
        shape("a straight corner", true, 0, 0, 5, 0, 10, 0, 10, 10, 0, 10);
        shape("two straight corners", true, 0, 0, 3, 0, 6, 0, 10, 0, 10, 10, 0, 10);
        shape("a straight corner of a slope", true, 0, 0, 10, 0, 6, 6, 2, 12);
        shape("a corner inward", true, 0, 0, 10, 0, 10, 10, 9, 1);
        fromEachCorner("a needle", true, new int[] {-100, -100, 100, 99, 100, 100});
    }

    private static void facesOfNoLength() {
        shape("of four", false, 0, 0, 0, 0, 10, 0, 0, 10);
        shape("of three", false, 0, 0, 10, 0, 10, 0);
        shape("two in a row", false, 0, 0, 10, 0, 10, 0, 10, 0, 0, 10);
        shape("all", false, new int[6]);
    }

    private static void againstTheClock() {
        shape("a square", true, SQUARE);
        shape("an L", true, 0, 0, 10, 0, 10, 5, 5, 5, 5, 10, 0, 10);
        shape("a round one", true, ROUND);
        shape("a U", true, 0, 0, 9, 0, 9, 9, 6, 9, 6, 3, 3, 3, 3, 9, 0, 9);
    }

    private static ArchYard fullYard() {
        ArchYard yard = yard();
        fill(yard, 0, 0, TRIANGLE);
        for (int s = 0; s < 120; s++) due("stone " + s, yard.stone(0, 0, 0, 0), s);
        return yard;
    }

    private static void hundredAndTwenty() {
        ArchYard yard = fullYard();
        for (int kind = 0; kind < 5; kind++) due("a 121st of kind " + kind, yard.stone(kind, 0, 0, 0), -5);
        due("stones", yard.count(1), 120);
        due("the last one", told(yard, 119, 0, 1, 2), "0 3 1");
        index("stone 120", () -> yard.told(120, 0));
        yard.arch(1);
        yard.place(0, 0, 119);
        due("the last one stands", yard.there(0, 0), 119);
        index("stone 120 in a place", () -> yard.place(0, 0, 120));
    }

    private static void theFirstReason() {
        ArchYard yard = yard();
        due("odd and far", stone(yard, 0, 0, 101, 0, 10, 0, 0, 10, 5), -2);
        due("too many and far", stone(yard, 0, 0, Arrays.copyOf(new int[] {101}, 26)), -2);
        due("too few and far", stone(yard, 0, 0, 101, 0, 0, 10), -2);
        due("far and with the clock", stone(yard, 0, 0, 0, 0, 0, 101, 101, 0), -3);
        due("far and without length", stone(yard, 0, 0, 101, 101, 101, 101, 101, 101), -3);
    }

    private static void otherReasonsBefore120() {
        ArchYard yard = fullYard();
        due("missing", yard.stone(0, 0, 1, 0), -1);
        yard.row(0, 1, 7);
        due("odd", yard.stone(0, 0, 1, 0), -2);
        yard.row(0, 1, 6);
        due("without length", yard.stone(0, 0, 1, 0), -4);
        yard.put(0, 1, 0, 101);
        due("far", yard.stone(0, 0, 1, 0), -3);
        argument("no such kind", () -> yard.stone(5, 0, 0, 0));
    }

    private static void refusedStonesAreNotCounted() {
        ArchYard yard = yard();
        yard.stone(0, 0, 0, 0);
        stone(yard, 0, 0, new int[5]);
        stone(yard, 0, 0, 0, 0, 101, 0, 0, 10);
        stone(yard, 0, 0, new int[6]);
        due("stones", yard.count(1), 0);
        due("the next one", stone(yard, 0, 0, TRIANGLE), 0);
        due("and the next", yard.stone(0, 1, 0, 0), 1);
    }

    private static void noSuchRackOrRow() {
        ArchYard yard = yard();
        for (int rack : new int[] {-1, 2, 8, LEAST_INT, GREATEST_INT}) index("rack " + rack, () -> yard.stone(0, rack, 0, 0));
        for (int k : new int[] {-1, 40, LEAST_INT, GREATEST_INT}) index("row " + k, () -> yard.stone(0, 0, k, 0));
        index("rack 2 and kind 5", () -> yard.stone(5, 2, 0, 0));
        index("row 40 and part 1", () -> yard.stone(0, 0, 40, 1));
    }

    private static void kindsZeroToFour() {
        ArchYard yard = yard();
        fill(yard, 0, 0, TRIANGLE);
        for (int kind : new int[] {-1, 5, LEAST_INT, GREATEST_INT}) {
            argument("kind " + kind, () -> yard.stone(kind, 0, 0, 0));
            argument("kind " + kind + " of a missing row", () -> yard.stone(kind, 0, 1, 0));
        }
        due("stones", yard.count(1), 0);
        for (int kind = 0; kind < 5; kind++) {
            due("kind " + kind, yard.stone(kind, 0, 0, 0), kind);
            due("told", yard.told(kind, 0), kind);
        }
    }

    private static void partsOfOthers() {
        ArchYard yard = yard();
        fill(yard, 0, 0, TRIANGLE);
        for (int kind = 0; kind < 4; kind++) {
            int one = kind;
            for (int part : new int[] {-1, 1, 99, LEAST_INT, GREATEST_INT}) {
                argument("kind " + kind + " with part " + part, () -> yard.stone(one, 0, 0, part));
            }
        }
        argument("of a missing row", () -> yard.stone(0, 0, 1, 1));
        due("stones", yard.count(1), 0);
    }

    private static void partsOfAHollow() {
        ArchYard yard = yard();
        fill(yard, 0, 0, TRIANGLE);
        for (int part : new int[] {-1, 100, LEAST_INT, GREATEST_INT}) argument("part " + part, () -> yard.stone(4, 0, 0, part));
        due("part 0", yard.stone(4, 0, 0, 0), 0);
        due("part 99", yard.stone(4, 0, 0, 99), 1);
        due("stones", yard.count(1), 2);
    }

    private static void stonesNeverChange() {
        ArchYard yard = yard();
        fill(yard, 0, 0, SQUARE);
        yard.stone(0, 0, 0, 0);
        yard.put(0, 0, 2, 50);
        due("after put", told(yard, 0, 11, 2), "10 200");
        due("another one of the row", yard.stone(0, 0, 0, 0), 1);
        due("is as the row is", told(yard, 1, 11), "50");
        yard.tear(0, 0, 2);
        yard.row(0, 0, 0);
        due("after tear and row", told(yard, 0, 1, 9, 10, 11, 12, 13, 14, 15, 16), "4 0 0 10 0 10 10 0 10");
    }

    private static void leastAndGreatestArea() {
        ArchYard yard = yard();
        stone(yard, 0, 0, TRIANGLE);
        due("the least", yard.told(0, 2), 1);
        stone(yard, 0, 0, WIDEST);
        due("the greatest", yard.told(1, 2), 80000);
        // The square 10 by 10 less a triangle of 10 by 5.
        stone(yard, 0, 0, 0, 0, 10, 0, 5, 5, 10, 10, 0, 10);
        due("with a corner inward", yard.told(2, 2), 150);
    }

    private static void middleInLowestTerms() {
        ArchYard yard = yard();
        stone(yard, 0, 0, TRIANGLE);
        due("a third", told(yard, 0, 5, 6, 7, 8), "1 3 1 3");
        stone(yard, 0, 0, -1, -1, 0, -1, -1, 0);
        due("below 0", told(yard, 1, 5, 6, 7, 8), "-2 3 -2 3");
        stone(yard, 0, 0, WIDEST);
        due("nothing", told(yard, 2, 5, 6, 7, 8), "0 1 0 1");
        stone(yard, 0, 0, -100, -100, -99, -100, -99, -99, -100, -99);
        due("a half", told(yard, 3, 5, 6, 7, 8), "-199 2 -199 2");
        stone(yard, 0, 0, 96, 98, 100, 97, 100, 100);
        due("thirds", told(yard, 4, 5, 6, 7, 8), "296 3 295 3");
        // Of the square less the triangle of 25 at 25/3, 5: (500 - 625/3) / 75 = 35/9.
        stone(yard, 0, 0, 0, 0, 10, 0, 5, 5, 10, 10, 0, 10);
        due("with a corner inward", told(yard, 5, 5, 6, 7, 8), "35 9 5 1");
    }

    private static void weightCutTowardsZero() {
        ArchYard yard = yard();
        int[] least = {2, 2, 2, 1, 1};
        for (int kind = 0; kind < 5; kind++) {
            due("of the least stone of kind " + kind, yard.told(stone(yard, kind, 0, TRIANGLE), 3), least[kind]);
        }
        int[] next = {7, 8, 7, 4, 4};
        for (int kind = 0; kind < 5; kind++) {
            due("of area 3 and kind " + kind, yard.told(stone(yard, kind, 0, 0, 0, 3, 0, 0, 1), 3), next[kind]);
        }
        int[] greatest = {200000, 220000, 200000, 130000, 130000};
        for (int kind = 0; kind < 5; kind++) {
            due("of the greatest stone of kind " + kind, yard.told(stone(yard, kind, 0, WIDEST), 3), greatest[kind]);
        }
    }

    private static void hundredthsCutTowardsZero() {
        ArchYard yard = yard();
        fill(yard, 0, 0, SQUARE);
        int[] parts = {0, 1, 50, 99};
        int[] weights = {325, 322, 163, 4};
        for (int i = 0; i < 4; i++) due("325 less " + parts[i], yard.told(yard.stone(4, 0, 0, parts[i]), 3), weights[i]);
        fill(yard, 0, 0, TRIANGLE);
        due("1 less 99", yard.told(yard.stone(4, 0, 0, 99), 3), 1);
        fill(yard, 0, 0, WIDEST);
        due("130000 less 99", yard.told(yard.stone(4, 0, 0, 99), 3), 1300);
    }

    private static void spotCutTowardsZero() {
        ArchYard yard = yard();
        due("3.33", yard.told(stone(yard, 0, 0, TRIANGLE), 4), 3);
        due("-6.67", yard.told(stone(yard, 0, 0, -1, 0, 0, 0, -1, 1), 4), -6);
        due("-3.33", yard.told(stone(yard, 0, 0, -1, 0, 0, 0, 0, 1), 4), -3);
        due("6.67", yard.told(stone(yard, 0, 0, 0, 0, 1, 0, 1, 1), 4), 6);
        due("0", yard.told(stone(yard, 0, 0, WIDEST), 4), 0);
        due("-995", yard.told(stone(yard, 0, 0, -100, -100, -99, -100, -99, -99, -100, -99), 4), -995);
        due("996.67", yard.told(stone(yard, 0, 0, 99, 0, 100, 0, 100, 1), 4), 996);
    }

    private static void toldOfNoStone() {
        ArchYard yard = yard();
        index("stone 0 of none", () -> yard.told(0, 0));
        stone(yard, 0, 0, TRIANGLE);
        for (int s : new int[] {-1, -2, 1, 120, LEAST_INT, GREATEST_INT}) index("stone " + s, () -> yard.told(s, 0));
        index("stone 1 and no such what", () -> yard.told(1, -1));
    }

    private static void toldNoSuchWhat() {
        ArchYard yard = yard();
        stone(yard, 0, 0, TRIANGLE);
        stone(yard, 0, 0, ROUND);
        for (int what : new int[] {-1, 15, 33, LEAST_INT, GREATEST_INT}) argument("three corners, what " + what, () -> yard.told(0, what));
        due("three corners, what 14", yard.told(0, 14), 1);
        argument("twelve corners, what 33", () -> yard.told(1, 33));
        due("twelve corners, what 32", yard.told(1, 32), 5);
    }

    private static void cornersInOrder() {
        ArchYard yard = yard();
        int[] moved = ROUND.clone();
        for (int i = 0; i < 24; i++) moved[i] += i % 2 == 0 ? 50 : -70;
        stone(yard, 0, 0, moved);
        for (int i = 0; i < 24; i++) due("what " + (9 + i), yard.told(0, 9 + i), moved[i]);
    }

    public static void main(String[] args) {
        sentence("-1 its ROW is missing", EdgeStonesTest::rowIsMissing);
        sentence("-2 its numbers are less than 6", EdgeStonesTest::lessThanSix);
        sentence("-2 more than 24", EdgeStonesTest::moreThan24);
        sentence("-2 or odd in number", EdgeStonesTest::oddInNumber);
        sentence("-3 a number is not -100 to 100", EdgeStonesTest::numbersTooFar);
        sentence("-3, of 16 bits the lowest ones", EdgeStonesTest::farNumbersOf16Bits);
        sentence("-4 two of its FACES have a point in common: they cross", EdgeStonesTest::facesCross);
        sentence("-4 two of its FACES have a point in common: they touch", EdgeStonesTest::facesTouch);
        sentence("-4 two of its FACES have a point in common: or none", EdgeStonesTest::facesThatNearlyTouch);
        sentence("-4 two of its FACES have a point in common: they lie on each other", EdgeStonesTest::facesUponEachOther);
        sentence("-4 neighbours have more than their CORNER", EdgeStonesTest::neighboursShareMore);
        sentence("but neighbours their CORNER", EdgeStonesTest::neighboursShareTheirCorner);
        sentence("-4 or a FACE has no length", EdgeStonesTest::facesOfNoLength);
        sentence("-4 or the CORNERS don't go round against the clock", EdgeStonesTest::againstTheClock);
        sentence("-5 there are 120 STONES", EdgeStonesTest::hundredAndTwenty);
        sentence("for the first of these that is", EdgeStonesTest::theFirstReason);
        sentence("for the first of these that is, with 120 STONES", EdgeStonesTest::otherReasonsBefore120);
        sentence("stone: its number, or why not", EdgeStonesTest::refusedStonesAreNotCounted);
        sentence("stone: IndexOutOfBoundsException likewise", EdgeStonesTest::noSuchRackOrRow);
        sentence("stone: no such KIND", EdgeStonesTest::kindsZeroToFour);
        sentence("stone: PART is not 0 of others", EdgeStonesTest::partsOfOthers);
        sentence("stone: PART is not 0 to 99 of a HOLLOW", EdgeStonesTest::partsOfAHollow);
        sentence("A STONE never changes", EdgeStonesTest::stonesNeverChange);
        sentence("AREA: twice the area, a whole number", EdgeStonesTest::leastAndGreatestArea);
        sentence("MIDDLE: in lowest terms, the lower one above 0", EdgeStonesTest::middleInLowestTerms);
        sentence("WEIGHT: cut towards 0", EdgeStonesTest::weightCutTowardsZero);
        sentence("less PART hundredths of it (cut towards 0)", EdgeStonesTest::hundredthsCutTowardsZero);
        sentence("SPOT: times 10, cut towards 0", EdgeStonesTest::spotCutTowardsZero);
        sentence("told: no such STONE", EdgeStonesTest::toldOfNoStone);
        sentence("told: no such what", EdgeStonesTest::toldNoSuchWhat);
        sentence("told: 9 + 2 i, 10 + 2 i CORNER i", EdgeStonesTest::cornersInOrder);
        finish();
    }
}
