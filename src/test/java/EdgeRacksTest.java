/** The edges that promises 1 to 5 and 25 name, each sentence by itself: racks and their rows. */
public final class EdgeRacksTest extends Bench {
    private static final int[] NO_RACKS = {-1, 2, 7, 8, LEAST_INT, GREATEST_INT};
    private static final int[] NO_ROWS = {-1, 40, LEAST_INT, GREATEST_INT};

    private static void nothingInANewYard() {
        ArchYard yard = new ArchYard();
        for (int what = 0; what <= 3; what++) due("count " + what, yard.count(what), 0);
        due("octet", yard.octet(0), NONE);
        index("row", () -> yard.row(0, 0, 0));
        index("put", () -> yard.put(0, 0, 0, 0));
        index("tear", () -> yard.tear(0, 0, 0));
        index("stone", () -> yard.stone(0, 0, 0, 0));
        index("told", () -> yard.told(0, 0));
    }

    private static void noArchInANewYard() {
        ArchYard yard = new ArchYard();
        index("pier", () -> yard.pier(0, 0, 0, 0, 0, 1));
        index("place", () -> yard.place(0, 0, NONE));
        index("there", () -> yard.there(0, 0));
        index("load", () -> yard.load(0, 0, 0, 1));
        index("slope", () -> yard.slope(0, 1, 1));
        index("whole", () -> yard.whole(0));
        index("joint", () -> yard.joint(0, 0, 0));
        index("line", () -> yard.line(0, 0, 0, 0, 0));
        index("judge", () -> yard.judge(0, 0));
        index("room", () -> yard.room(0));
        index("strike", () -> yard.strike(0, 0, 0));
        index("order", () -> yard.order(0, 0));
    }

    private static void yardsAreApart() {
        ArchYard one = yard();
        fill(one, 0, 0, 7);
        ArchYard other = new ArchYard();
        due("racks of another yard", other.count(0), 0);
        due("the next rack of another yard", other.rack(0), 0);
        due("its row", rowOf(other, 0, 0), "missing");
        due("the first yard's row", rowOf(one, 0, 0), "7");
    }

    private static void widthsOfRacks() {
        ArchYard yard = new ArchYard();
        for (int width : new int[] {-1, 2, LEAST_INT, GREATEST_INT}) argument("width " + width, () -> yard.rack(width));
        due("racks after refused ones", yard.count(0), 0);
        due("width 0", yard.rack(0), 0);
        due("width 1", yard.rack(1), 1);
        due("racks", yard.count(0), 2);
    }

    private static void eightRacks() {
        ArchYard yard = new ArchYard();
        for (int i = 0; i < 8; i++) due("rack " + i, yard.rack(i == 7 ? 1 : 0), i);
        state("a ninth of 16 bits", () -> yard.rack(0));
        state("a ninth of 32 bits", () -> yard.rack(1));
        due("racks", yard.count(0), 8);
        yard.row(7, 0, 1);
        yard.put(7, 0, 0, 70000);
        due("the eighth stays as it is", rowOf(yard, 7, 0), "70000");
        index("rack 8", () -> yard.row(8, 0, 1));
    }

    private static void widthBeforeEight() {
        ArchYard yard = new ArchYard();
        for (int i = 0; i < 8; i++) yard.rack(0);
        argument("a ninth of width 2", () -> yard.rack(2));
        argument("a ninth of width -1", () -> yard.rack(-1));
    }

    private static void allRowsMissing() {
        ArchYard yard = new ArchYard();
        for (int rack = 0; rack < 8; rack++) yard.rack(rack % 2);
        for (int rack = 0; rack < 8; rack++) {
            for (int k = 0; k < 40; k++) due("row " + k + " of rack " + rack, yard.tear(rack, k, 0), 0);
        }
        due("a stone of a missing row", yard.stone(0, 7, 39, 0), -1);
    }

    private static void rowsZeroTo39() {
        ArchYard yard = yard();
        yard.row(0, 0, 1);
        yard.row(1, 39, 1);
        due("row 0", rowOf(yard, 0, 0), "0");
        due("row 39", rowOf(yard, 1, 39), "0");
        due("row 39 of the other rack", rowOf(yard, 0, 39), "missing");
        due("row 38", rowOf(yard, 1, 38), "missing");
    }

    private static void noSuchRow() {
        ArchYard yard = yard();
        for (int rack : NO_RACKS) {
            index("row of rack " + rack, () -> yard.row(rack, 0, 1));
            index("put in rack " + rack, () -> yard.put(rack, 0, 0, 1));
            index("tear in rack " + rack, () -> yard.tear(rack, 0, 0));
        }
        for (int k : NO_ROWS) {
            index("row " + k, () -> yard.row(0, k, 1));
            index("put in row " + k, () -> yard.put(0, k, 0, 1));
            index("tear of row " + k, () -> yard.tear(0, k, 0));
        }
        due("row 0 is missing still", rowOf(yard, 0, 0), "missing");
        due("row 39 is missing still", rowOf(yard, 0, 39), "missing");
        due("row 0 of rack 1 is missing still", rowOf(yard, 1, 0), "missing");
    }

    private static void rowBeforeLength() {
        ArchYard yard = yard();
        index("rack 2 and 41 numbers", () -> yard.row(2, 0, 41));
        index("row 40 and -1 numbers", () -> yard.row(0, 40, -1));
    }

    private static void lengthsOfRows() {
        ArchYard yard = yard();
        fill(yard, 0, 3, 5, 6);
        for (int n : new int[] {-1, 41, LEAST_INT, GREATEST_INT}) {
            argument(n + " numbers", () -> yard.row(0, 3, n));
            argument(n + " numbers where none are", () -> yard.row(0, 4, n));
        }
        due("the row stays", rowOf(yard, 0, 3), "5 6");
        due("the missing one stays missing", rowOf(yard, 0, 4), "missing");
    }

    private static void aRowOfNothing() {
        ArchYard yard = yard();
        yard.row(0, 0, 0);
        due("a row of nothing is there", rowOf(yard, 0, 0), "");
        due("its place 0", yard.put(0, 0, 0, 1), LEAST_INT);
        due("a stone of it", yard.stone(0, 0, 0, 0), -2);
    }

    private static void aRowOf40() {
        ArchYard yard = yard();
        yard.row(0, 0, 40);
        yard.row(0, 1, 40);
        for (int i = 0; i < 40; i++) due("place " + i, yard.put(0, 0, i, i + 1), 0);
        due("place 40", yard.put(0, 0, 40, 9), LEAST_INT);
        due("the next row's place 0", yard.put(0, 1, 0, 9), 0);
        due("place 39", yard.put(0, 0, 39, 9), 40);
        due("a stone of it", yard.stone(0, 0, 0, 0), -2);
    }

    private static void rowInThePlaceOfAnother() {
        ArchYard yard = yard();
        fill(yard, 0, 5, 1, 2, 3);
        fill(yard, 0, 6, 4, 5, 6);
        fill(yard, 1, 5, 7, 8, 9);
        yard.row(0, 5, 3);
        due("one as long", rowOf(yard, 0, 5), "0 0 0");
        fill(yard, 0, 5, 1, 2, 3);
        yard.row(0, 5, 2);
        due("a shorter one", rowOf(yard, 0, 5), "0 0");
        yard.row(0, 5, 4);
        due("a longer one", rowOf(yard, 0, 5), "0 0 0 0");
        due("the row beside", rowOf(yard, 0, 6), "4 5 6");
        due("the other rack's row", rowOf(yard, 1, 5), "7 8 9");
        due("the row before", rowOf(yard, 0, 4), "missing");
    }

    private static void putAnswersWhatItHad() {
        ArchYard yard = yard();
        yard.row(1, 0, 3);
        due("at first", yard.put(1, 0, 0, 5), 0);
        due("then", yard.put(1, 0, 0, 6), 5);
        due("the last place", yard.put(1, 0, 2, 7), 0);
        due("all", rowOf(yard, 1, 0), "6 0 7");
    }

    private static void lowest16Bits() {
        ArchYard yard = yard();
        yard.row(0, 0, 1);
        int[] given = {32767, 32768, 65535, 65536, 65537, -32768, -32769, -65536, LEAST_INT, GREATEST_INT, 0x12345678};
        int[] kept = {32767, -32768, -1, 0, 1, -32768, 32767, 0, 0, -1, 0x5678};
        for (int i = 0; i < given.length; i++) {
            yard.put(0, 0, 0, given[i]);
            due("of " + given[i], yard.put(0, 0, 0, 0), kept[i]);
        }
    }

    private static void all32Bits() {
        ArchYard yard = yard();
        yard.row(1, 0, 1);
        for (int v : new int[] {32768, 65536, -32769, LEAST_INT, GREATEST_INT, -1}) {
            yard.put(1, 0, 0, v);
            due("of " + v, yard.put(1, 0, 0, 0), v);
        }
    }

    private static void putAtNoPlace() {
        ArchYard yard = yard();
        fill(yard, 0, 0, 1, 2);
        fill(yard, 0, 1, 3, 4);
        for (int i : new int[] {-1, 2, 39, 40, 41, LEAST_INT, GREATEST_INT}) {
            due("row 0, place " + i, yard.put(0, 0, i, 9), LEAST_INT);
            due("row 1, place " + i, yard.put(0, 1, i, 9), LEAST_INT);
        }
        due("row 0 stays", rowOf(yard, 0, 0), "1 2");
        due("row 1 stays", rowOf(yard, 0, 1), "3 4");
        due("the place behind is no place of a longer row", yard.tear(0, 0, 3), 0);
    }

    private static void putIntoAMissingRow() {
        ArchYard yard = yard();
        due("place 0", yard.put(0, 0, 0, 9), LEAST_INT);
        due("place -1", yard.put(0, 0, -1, 9), LEAST_INT);
        due("it is missing still", rowOf(yard, 0, 0), "missing");
        yard.row(0, 0, 1);
        due("nothing was put there", rowOf(yard, 0, 0), "0");
    }

    private static void tearToFirstNumbers() {
        ArchYard yard = yard();
        fill(yard, 0, 0, 1, 2, 3);
        fill(yard, 0, 1, 4);
        due("to all of them", yard.tear(0, 0, 3), 1);
        due("all are there", rowOf(yard, 0, 0), "1 2 3");
        due("to 2", yard.tear(0, 0, 2), 1);
        due("the first two", rowOf(yard, 0, 0), "1 2");
        due("place 2", yard.put(0, 0, 2, 9), LEAST_INT);
        due("to 0", yard.tear(0, 0, 0), 1);
        due("none, but there", rowOf(yard, 0, 0), "");
        due("the row beside", rowOf(yard, 0, 1), "4");
    }

    private static void tearWhatHasLess() {
        ArchYard yard = yard();
        fill(yard, 0, 0, 1, 2, 3);
        for (int n : new int[] {4, 40, 41, GREATEST_INT}) due("to " + n, yard.tear(0, 0, n), 0);
        due("the row stays", rowOf(yard, 0, 0), "1 2 3");
        yard.row(0, 1, 0);
        due("a row of nothing to 1", yard.tear(0, 1, 1), 0);
        due("it stays", rowOf(yard, 0, 1), "");
        yard.row(0, 2, 40);
        due("a row of 40 to 41", yard.tear(0, 2, 41), 0);
        due("a row of 40 to 40", yard.tear(0, 2, 40), 1);
    }

    private static void tornNumbersDoNotComeBack() {
        ArchYard yard = yard();
        fill(yard, 0, 0, 1, 2, 3);
        yard.tear(0, 0, 1);
        due("back to 3", yard.tear(0, 0, 3), 0);
        due("back to 2", yard.tear(0, 0, 2), 0);
        due("one is left", rowOf(yard, 0, 0), "1");
        yard.row(0, 0, 3);
        due("a new row has zeros", rowOf(yard, 0, 0), "0 0 0");
    }

    private static void tearAMissingRow() {
        ArchYard yard = yard();
        due("to 0", yard.tear(1, 39, 0), 0);
        due("to 1", yard.tear(1, 39, 1), 0);
        due("to -1, the size that it may be held by", yard.tear(1, 39, -1), 0);
        due("it is missing still", rowOf(yard, 1, 39), "missing");
        due("a stone of it", yard.stone(0, 1, 39, 0), -1);
    }

    private static void tearBelowZero() {
        ArchYard yard = yard();
        fill(yard, 0, 0, 1, 2);
        due("to -1", yard.tear(0, 0, -1), 0);
        due("to the least", yard.tear(0, 0, LEAST_INT), 0);
        due("it stays", rowOf(yard, 0, 0), "1 2");
        yard.row(0, 0, 0);
        due("nothing to -1", yard.tear(0, 0, -1), 0);
        due("nothing stays", rowOf(yard, 0, 0), "");
    }

    private static void countsOfOthers() {
        ArchYard yard = block(0, 0);
        for (int what : new int[] {-1, 4, LEAST_INT, GREATEST_INT}) due("count " + what, yard.count(what), NONE);
        due("racks", yard.count(0), 2);
        due("stones", yard.count(1), 1);
        due("arches", yard.count(2), 1);
        due("bytes", yard.count(3), 0);
        yard.judge(0, 0);
        due("judging writes nothing", yard.count(3), 0);
        yard.number(0);
        due("bytes of 500", yard.count(3), 3);
    }

    public static void main(String[] args) {
        sentence("No RACKS, STONES; an empty PAGE", EdgeRacksTest::nothingInANewYard);
        sentence("No ARCHES", EdgeRacksTest::noArchInANewYard);
        sentence("A new object", EdgeRacksTest::yardsAreApart);
        sentence("rack: the width is not 0 or 1", EdgeRacksTest::widthsOfRacks);
        sentence("rack: there are 8", EdgeRacksTest::eightRacks);
        sentence("rack: both at once, as its throws clause goes", EdgeRacksTest::widthBeforeEight);
        sentence("ROWS, each missing at first; all ROWS missing", EdgeRacksTest::allRowsMissing);
        sentence("ROWS 0 to 39", EdgeRacksTest::rowsZeroTo39);
        sentence("row, put, tear: no such RACK or ROW", EdgeRacksTest::noSuchRow);
        sentence("row: both at once, as its throws clause goes", EdgeRacksTest::rowBeforeLength);
        sentence("row: n is not 0 to 40", EdgeRacksTest::lengthsOfRows);
        sentence("row: 0 numbers", EdgeRacksTest::aRowOfNothing);
        sentence("row: 40 numbers, all 0", EdgeRacksTest::aRowOf40);
        sentence("row: comes in the place of ROW k", EdgeRacksTest::rowInThePlaceOfAnother);
        sentence("put: what it had; v comes there", EdgeRacksTest::putAnswersWhatItHad);
        sentence("put: of 16 bits its lowest ones", EdgeRacksTest::lowest16Bits);
        sentence("numbers of 32 bits", EdgeRacksTest::all32Bits);
        sentence("put: doing nothing, if there is no such place", EdgeRacksTest::putAtNoPlace);
        sentence("put: or the ROW is missing", EdgeRacksTest::putIntoAMissingRow);
        sentence("tear: cut to its first n numbers: 1", EdgeRacksTest::tearToFirstNumbers);
        sentence("tear: 0, doing nothing, if it has less", EdgeRacksTest::tearWhatHasLess);
        sentence("tear: what was cut is gone", EdgeRacksTest::tornNumbersDoNotComeBack);
        sentence("tear: or is missing", EdgeRacksTest::tearAMissingRow);
        sentence("tear: or n is below 0", EdgeRacksTest::tearBelowZero);
        sentence("count: NONE for others", EdgeRacksTest::countsOfOthers);
        finish();
    }
}
