/** The edges that promises 16 to 20 and 24 and the terms of THRUST LINES name, each sentence by itself. */
public final class EdgeLinesTest extends Bench {
    private static final int[] NO_ARCHES = {-1, 1, 12, LEAST_INT, GREATEST_INT};

    private static void noSuchArch() {
        ArchYard yard = block(0, 0);
        for (int arch : NO_ARCHES) {
            index("line of " + arch, () -> yard.line(arch, 0, 0, 0, 0));
            index("judge of " + arch, () -> yard.judge(arch, 0));
        }
        index("line of 1, with all that is wrong", () -> yard.line(1, 2, BILLION + 1, 0, 0));
        index("judge of 1, with no such how", () -> yard.judge(1, 2));
    }

    private static void hows() {
        ArchYard yard = block(0, 0);
        for (int how : new int[] {-1, 2, LEAST_INT, GREATEST_INT}) {
            argument("line, how " + how, () -> yard.line(0, how, 0, 0, 0));
            argument("judge, how " + how, () -> yard.judge(0, how));
        }
        due("how 0", yard.line(0, 0, 0, 250, 0), 2);
        due("how 1", yard.line(0, 1, 0, 250, 0), NONE);
    }

    private static void numbersOfLines() {
        ArchYard yard = block(0, 0);
        for (int far : new int[] {BILLION + 1, -BILLION - 1, LEAST_INT, GREATEST_INT}) {
            argument("h " + far, () -> yard.line(0, 0, far, 0, 0));
            argument("v " + far, () -> yard.line(0, 0, 0, far, 0));
            argument("m " + far, () -> yard.line(0, 0, 0, 0, far));
        }
    }

    /** Of the block the bounds 0, 1, 4 and 5 are -m; m + 100 h; -m + 100 v - 25000; m - 100 v + 100 h + 25000. */
    private static void farthestLines() {
        ArchYard yard = block(0, 0);
        due("h, down the middle", yard.line(0, 1, BILLION, 250, -BILLION), NONE);
        due("h, with slopes", yard.line(0, 0, BILLION, 250, -BILLION), NONE);
        due("h below 0", yard.line(0, 1, -BILLION, 0, 0), 1);
        due("v", yard.line(0, 1, 0, BILLION, 0), 5);
        due("v below 0", yard.line(0, 1, 0, -BILLION, 0), 4);
        due("m", yard.line(0, 1, 0, 0, BILLION), 0);
        due("m below 0", yard.line(0, 1, 0, 0, -BILLION), 1);
        due("all", yard.line(0, 0, BILLION, BILLION, BILLION), 0);
        due("h and v", yard.line(0, 0, BILLION, BILLION, -BILLION), 2);
        due("h and v without slopes", yard.line(0, 1, BILLION, BILLION, -BILLION), 5);
    }

    private static void notWholeForEachReason() {
        ArchYard yard = beam(0, 0, 0);
        notWhole("nothing in a place", yard, () -> yard.place(0, 1, NONE));
        notWhole("a wedge in a place", yard, () -> yard.place(0, 1, WEDGE));
        ArchYard key = beam(1, 0);
        notWhole("a key at the end", key, () -> due("whole", key.whole(0), 0));
        ArchYard springer = beam(0, 2, 0);
        notWhole("a springer within", springer, () -> due("whole", springer.whole(0), 1));
        yard.place(0, 1, 1);
        notWhole("a joint that is missing", yard, () -> yard.pier(0, 1, 31, 10, 31, 0));
        ArchYard bare = yard();
        stone(bare, 0, 0, SQUARE);
        bare.arch(1);
        bare.place(0, 0, 0);
        notWhole("no pier", bare, () -> due("whole", bare.whole(0), 100));
        notWhole("no right pier", bare, () -> bare.pier(0, 0, 0, 0, 0, 10));
        bare.pier(0, 1, 10, 10, 10, 0);
        due("whole", bare.judge(0, 0), 1);
    }

    private static void notWhole(String why, ArchYard yard, Call change) {
        change.run();
        state(why + ": line", () -> yard.line(0, 0, 0, 0, 0));
        state(why + ": judge", () -> yard.judge(0, 0));
        state(why + ": room", () -> yard.room(0));
        state(why + ": strike", () -> yard.strike(0, 0, 0));
        state(why + ": order", () -> yard.order(0, 0));
    }

    private static void argumentsBeforeWhole() {
        ArchYard yard = yard();
        yard.arch(1);
        argument("line, how 2", () -> yard.line(0, 2, 0, 0, 0));
        argument("line, h", () -> yard.line(0, 0, BILLION + 1, 0, 0));
        argument("line, v", () -> yard.line(0, 0, 0, BILLION + 1, 0));
        argument("line, m", () -> yard.line(0, 0, 0, 0, -BILLION - 1));
        argument("judge, how 2", () -> yard.judge(0, 2));
        state("line with nothing else wrong", () -> yard.line(0, 1, BILLION, -BILLION, BILLION));
        state("judge with nothing else wrong", () -> yard.judge(0, 1));
    }

    private static void boundsAtA() {
        ArchYard yard = block(0, 0);
        due("0 is 0", yard.line(0, 1, 1000, 250, 0), NONE);
        due("0 is -1", yard.line(0, 1, 1000, 250, 1), 0);
        due("4 is 0", yard.line(0, 1, 1000, 50, -20000), NONE);
        due("4 is -100", yard.line(0, 1, 1000, 49, -20000), 4);
        due("4 is -1", yard.line(0, 1, 1000, 50, -19999), 4);
    }

    private static void boundsAtB() {
        ArchYard yard = block(0, 0);
        due("1 is 0", yard.line(0, 1, 1000, 250, -100000), NONE);
        due("1 is -1", yard.line(0, 1, 1000, 250, -100001), 1);
        due("5 is 0", yard.line(0, 1, 1000, 450, -80000), NONE);
        due("5 is -100", yard.line(0, 1, 1000, 451, -80000), 5);
        due("5 is -1", yard.line(0, 1, 1000, 450, -80001), 5);
    }

    /** At joint 0 the bounds are 10 h - 20 v and 10 h + 20 v, at joint 1 the same of v - 500. */
    private static void boundsOfSlopes() {
        ArchYard yard = block(0, 0);
        due("2 is 0", yard.line(0, 0, 1000, 500, -50000), NONE);
        due("2 is -20", yard.line(0, 0, 1000, 501, -50000), 2);
        due("3 is 0, 4 is not", yard.line(0, 0, 1000, -500, -50000), 4);
        due("3 is -20", yard.line(0, 0, 1000, -501, -50000), 3);
        due("7 is 0", yard.line(0, 0, 1000, 0, -50000), NONE);
        due("7 is -20", yard.line(0, 0, 1000, -1, -50000), 7);
        ArchYard springing = beam(2, 0);
        due("6 is 0", springing.line(0, 0, 1000, 1000, 0), NONE);
        due("6 is -20", springing.line(0, 0, 1000, 1001, 200), 0);
        due("6 is -20, 0 is not", springing.line(0, 0, 1000, 1001, 0), 6);
    }

    /** A joint from 0, 0 to 5, 10 has n = 10, -5; with 3 over 4 its slopes are 10 h - 55 v and 50 h + 25 v. */
    private static void slopesOfALeaningJoint() {
        ArchYard yard = yard();
        stone(yard, 0, 0, 0, 0, 20, 0, 15, 10, 5, 10);
        yard.arch(1);
        yard.place(0, 0, 0);
        yard.pier(0, 0, 0, 0, 5, 10);
        yard.pier(0, 1, 15, 10, 20, 0);
        yard.slope(0, 3, 4);
        // Joint 1 from 20, 0 to 15, 10 has n = 10, 5, so of w = v - 750: 50 h - 25 w and 10 h + 55 w.
        due("whole", span(yard, 1), "20 0 15 10");
        due("2 is 0", yard.line(0, 0, 5500, 1000, -200000), NONE);
        due("2 is -10", yard.line(0, 0, 5499, 1000, -200000), 2);
        due("3 is 0, 4 is not", yard.line(0, 0, 1000, -2000, -90000), 4);
        due("3 is -25", yard.line(0, 0, 1000, -2001, -90000), 3);
        due("7 is 0", yard.line(0, 0, 4125, 0, -180000), NONE);
        due("7 is -10", yard.line(0, 0, 4124, 0, -180000), 7);
    }

    private static void withoutSlopes() {
        ArchYard yard = block(0, 0);
        due("no 2", yard.line(0, 1, 1000, 501, -50000), NONE);
        due("no 3", yard.line(0, 1, 1000, -501, -50000), 4);
        due("no 7", yard.line(0, 1, 1000, -1, -50000), NONE);
        yard.slope(0, 0, 1);
        due("whatever the slope", yard.line(0, 1, 1000, 501, -50000), NONE);
    }

    private static void theFirstBelow() {
        ArchYard yard = block(0, 0);
        due("0 before 2", yard.line(0, 0, 0, 250, 1), 0);
        due("1 before 2", yard.line(0, 0, 0, 250, -1), 1);
        due("2 before 4, 5, 6", yard.line(0, 0, 0, 900, 0), 2);
        due("4 before 7", yard.line(0, 0, 100, -50, -10), 4);
        due("1 before the frame", yard.line(0, 0, -1, 250, 0), 1);
    }

    private static ArchYard leftward(int n) {
        ArchYard yard = yard();
        yard.arch(n);
        for (int p = 0; p < n; p++) {
            int x = -10 * p;
            yard.place(0, p, stone(yard, 0, 0, x, 0, x, 10, x - 10, 10, x - 10, 0));
        }
        yard.pier(0, 0, 0, 10, 0, 0);
        yard.pier(0, 1, -10 * n, 0, -10 * n, 10);
        return yard;
    }

    /** Joints that go downward are kept by lines whose push is below 0, so only the frame breaks. */
    private static void pushNotBelowZero() {
        ArchYard one = leftward(1);
        due("a push of 0", one.line(0, 1, 0, 250, 0), NONE);
        due("a push of -1", one.line(0, 1, -1, 250, 50), 8);
        due("a far push below 0", one.line(0, 0, -20000000, 250, BILLION), 8);
        due("of two stones", leftward(2).line(0, 1, -1000, 500, 50000), 12);
        due("of ten stones", leftward(10).line(0, 1, -100000, 2500, 5000000), 44);
        due("of ten stones, with slopes", leftward(10).line(0, 0, -100000, 2500, 5000000), 44);
    }

    private static void springersAtPiers() {
        ArchYard alone = block(2, 0);
        due("alone, no 2", alone.line(0, 0, 0, 250, 0), NONE);
        due("alone, without push but with turn", alone.line(0, 0, 0, 250, 1), 0);
        ArchYard first = beam(2, 0);
        due("first: no 2", first.line(0, 0, 1000, 1000, 0), NONE);
        due("first: 7 is there", first.line(0, 0, 1000, -1, -50000), 7);
        due("first: 11 is there", first.line(0, 0, 1000, 400, -50000), 11);
        ArchYard last = beam(0, 2);
        due("last: 2 is there", last.line(0, 0, 1000, 600, -50000), 2);
        due("last: no 11", last.line(0, 0, 1000, 400, -50000), NONE);
        due("last: 7 is there", last.line(0, 0, 1000, -1, -50000), 7);
        ArchYard both = beam(2, 2);
        due("both: no 11", both.line(0, 0, 1000, 400, -50000), NONE);
        due("both: 6 is there", both.line(0, 0, 1000, 1001, 0), 6);
        due("a stone: 2 is there", beam(0, 0).line(0, 0, 1000, 600, -50000), 2);
        due("a filled one: 2 is there", beam(3, 3).line(0, 0, 1000, 600, -50000), 2);
    }

    /** So great a push is nearly a level line, 2 or 8 up: within 10, and not within the middle half. */
    private static int levelAt(int height, int... kinds) {
        return beam(kinds).line(0, 1, 10000000, 500, -100000000 * height);
    }

    private static void filledOnEitherSide() {
        due("none", levelAt(2, 0, 0, 0), NONE);
        due("the first: joint 0", levelAt(2, 3, 0, 0), 0);
        due("the second: joint 1", levelAt(2, 0, 3, 0), 4);
        due("the third: joint 2", levelAt(2, 0, 0, 3), 8);
        due("the first, above", levelAt(8, 3, 0, 0), 1);
        due("the second, above", levelAt(8, 0, 3, 0), 5);
        due("the third, above", levelAt(8, 0, 0, 3), 9);
        due("a hollow one", levelAt(2, 0, 4, 0), 4);
        due("a key is none", levelAt(2, 0, 1, 0), NONE);
        due("springers are none", levelAt(8, 2, 0, 2), NONE);
        due("the middle of all", levelAt(5, 3, 3, 3), NONE);
    }

    /** A line from 5 up that falls by 1.5 from joint to joint: 3.5, then 2, then half. */
    private static void filledAtTheRightEnd() {
        due("joints 0 and 1 have room for it", beam(3, 0, 0).line(0, 1, 1000000, -150000, -50000000), NONE);
        due("joint 2 is at the second's right", beam(0, 3, 0).line(0, 1, 1000000, -150000, -50000000), 8);
        due("joint 3 is at the third's right", beam(0, 0, 3).line(0, 1, 1000000, -140000, -50000000), 8);
        due("at a pier", beam(0, 3).line(0, 1, 1000000, -130000, -50000000), 8);
    }

    /** From 0, 2.5 to 0, 7.5 m is from -75 h to -25 h. */
    private static void middleHalf() {
        ArchYard yard = block(3, 0);
        due("upon A", yard.line(0, 1, 1000, 163, -25000), NONE);
        due("below A", yard.line(0, 1, 1000, 163, -24999), 0);
        due("upon B", yard.line(0, 1, 1000, 162, -75000), NONE);
        due("above B", yard.line(0, 1, 1000, 162, -75001), 1);
    }

    /** A joint 3 high has its quarters at 0.75 and 2.25: with a push of 2 m is -15 and -45. */
    private static void middleHalfInQuarters() {
        ArchYard yard = yard();
        stone(yard, 3, 0, 0, 0, 1, 0, 1, 3, 0, 3);
        yard.arch(1);
        yard.place(0, 0, 0);
        yard.pier(0, 0, 0, 0, 0, 3);
        yard.pier(0, 1, 1, 3, 1, 0);
        due("its weight", yard.told(0, 3), 9);
        due("upon A", yard.line(0, 1, 2, 5, -15), NONE);
        due("below A", yard.line(0, 1, 2, 5, -14), 0);
        due("upon B", yard.line(0, 1, 2, 4, -45), NONE);
        due("above B", yard.line(0, 1, 2, 4, -46), 1);
    }

    private static ArchYard hangingOf(int left, int right) {
        ArchYard yard = hanging();
        yard.place(0, 0, stone(yard, left, 0, 0, 10, 10, 0, 10, 2, 0, 12));
        yard.place(0, 1, stone(yard, right, 0, 10, 0, 20, 10, 20, 12, 10, 2));
        return yard;
    }

    /**
     * At a filled right stone: -100 h - m; 120 h + m; 60 h - 400 v + 4 m + 20000; -420 h + 800 v - 4 m - 73000.
     * At a filled left one: -420 h - 4 m; 460 h + 4 m; 60 h - 400 v + 4 m + 13000; -100 h + 200 v - m - 14750.
     */
    private static void timesFour() {
        ArchYard right = hangingOf(0, 3);
        due("filled at the right", right.judge(0, 1), 0);
        due("four times at joints 1 and 2", never(right), "0 1 5 8 by 39 35 2 1: -33000");
        ArchYard left = hangingOf(3, 0);
        due("filled at the left", left.judge(0, 1), 0);
        due("four times at joints 0 and 1", never(left), "0 1 5 8 by 37 35 4 8: -66000");
        ArchYard both = hangingOf(3, 4);
        both.judge(0, 1);
        due("four times at all", never(both), "0 1 5 8 by 19 18 2 1: -26000");
    }

    private static void slopesOfTheJointItself() {
        ArchYard yard = block(3, 0);
        yard.slope(0, 0, 3);
        yard.judge(0, 0);
        due("3 times 10 times 325", never(yard), "2 7 by 1 1: -9750");
    }

    /** A load of 1000 at the joint between: joint 1 has it behind, or ahead. */
    private static void whatIsAhead() {
        ArchYard behind = beam(0, 0);
        behind.load(0, 1, 100, 1000);
        due("upon place 1: joint 1 bears 500 less", behind.line(0, 0, 2000, 1000, 0), NONE);
        due("and one more, 1 over 2 of 2000 at joint 0", behind.line(0, 0, 2000, 1001, 0), 2);
        ArchYard ahead = beam(0, 0);
        ahead.load(0, 0, 100, 1000);
        due("upon place 0: joint 1 bears 1500 less", ahead.line(0, 0, 2000, 1000, 0), NONE);
        due("499 less 1500 is not within half of 1998", ahead.line(0, 0, 1998, 499, -90000), 7);
        due("499 less 500 is, and joint 2 is first", behind.line(0, 0, 1998, 499, -90000), 8);
    }

    private static void leastOfLeast() {
        // Upon the left pier and against the right one: without push the lift is 250 or more.
        ArchYard corner = block(0, 0);
        corner.pier(0, 0, 10, 0, 0, 0);
        corner.judge(0, 1);
        due("the least lift", least(corner), "0 250 0");
        // Between a pier above and one below: without push any lift below 0, and any turn within the joints.
        ArchYard column = block(0, 0);
        column.pier(0, 0, 0, 10, 10, 10);
        column.pier(0, 1, 10, 0, 0, 0);
        column.judge(0, 1);
        due("the least lift and turn", least(column), "0 -1000000000 -100000000000");
        due("touches the frame", boundsOf(column, 0), "1 8 10");
        column.slope(0, 1, 1);
        column.judge(0, 0);
        due("the greatest push, the least lift and turn", greatest(column), "1000000000 -1000000000 -100000025000");
        due("touches the frame too", boundsOf(column, 1), "2 5 9 10");
    }

    /** From 10 up at the left to 0 up at the right: the least lift of the greatest push. */
    private static void greatestPush() {
        ArchYard yard = block(0, 0);
        yard.judge(0, 1);
        due("LEAST", least(yard), "0 250 0");
        due("GREATEST", greatest(yard), "1000000000 -999999750 -100000000000");
        due("GREATEST touches", boundsOf(yard, 1), "1 4 9");
    }

    /** The push may be 0 at most, as its joints go, and 0 at least, as its frame goes. */
    private static void onlyOneLine() {
        ArchYard yard = leftward(1);
        due("it has one", yard.judge(0, 1), 1);
        due("LEAST", least(yard), "0 250 0");
        due("GREATEST", greatest(yard), "0 250 0");
        due("touched", boundsOf(yard, 0), "0 1 4 5 8");
        due("touched by GREATEST", boundsOf(yard, 1), "0 1 4 5 8");
    }

    /** Of joints 0 and 2 the lowest points and of joint 1 the highest are on one line but for a 199th. */
    private static ArchYard flat(int load) {
        ArchYard yard = yard();
        stone(yard, 0, 0, -100, 0, 0, -11, 0, -1, -100, 10);
        stone(yard, 0, 0, 0, -11, 99, -2, 99, 8, 0, -1);
        yard.arch(2);
        yard.place(0, 0, 0);
        yard.place(0, 1, 1);
        yard.pier(0, 0, -100, 0, -100, 10);
        yard.pier(0, 1, 99, 8, 99, -2);
        yard.load(0, 0, 0, load);
        return yard;
    }

    /** Each grain at 0 asks for a push of 100 * 99 / 199 * 199 = 9900, the stones for 49,252,500. */
    private static void pushNotBeyondABillion() {
        ArchYard yard = flat(96035);
        due("a push that is just enough", yard.judge(0, 1), 1);
        due("LEAST", number(yard, 0), "999999000");
        due("GREATEST", number(yard, 3), "1000000000");
        due("GREATEST touches", boundsOf(yard, 1), "5 8 13");
        ArchYard beyond = flat(96036);
        due("8900 too much", beyond.judge(0, 1), 0);
        due("NEVER", never(beyond), "0 5 8 13 by 99 199 100 10: -89000");
        due("no room", beyond.room(0), NONE);
    }

    /** Likewise, but steep, so that the lift is nearly four times the push: up to the right, or down. */
    private static ArchYard steep(boolean up, int load) {
        ArchYard yard = yard();
        if (up) {
            stone(yard, 0, 0, -25, -99, 0, -5, 0, 0, -25, -94);
            stone(yard, 0, 0, 0, -5, 24, 95, 24, 100, 0, 0);
        } else {
            stone(yard, 0, 0, -24, 95, 0, -5, 0, 0, -24, 100);
            stone(yard, 0, 0, 0, -5, 25, -99, 25, -94, 0, 0);
        }
        yard.arch(2);
        yard.place(0, 0, 0);
        yard.place(0, 1, 1);
        yard.pier(0, 0, up ? -25 : -24, up ? -99 : 95, up ? -25 : -24, up ? -94 : 100);
        yard.pier(0, 1, up ? 24 : 25, up ? 100 : -94, up ? 24 : 25, up ? 95 : -99);
        for (int i = 0; i < 4; i++) yard.load(0, 0, 0, 100000);
        yard.load(0, 0, 0, load);
        return yard;
    }

    private static void liftNotBeyondABillion() {
        ArchYard yard = steep(true, 20262);
        due("just enough", yard.judge(0, 1), 1);
        due("GREATEST has a lift of", number(yard, 4), "1000000000");
        due("GREATEST touches", boundsOf(yard, 1), "5 8 15");
        ArchYard beyond = steep(true, 20263);
        due("too much", beyond.judge(0, 1), 0);
        due("NEVER", boundsOf(beyond, 2), "0 5 8 15");
    }

    private static void liftNotBelowABillion() {
        ArchYard yard = steep(false, 20440);
        due("just enough", yard.judge(0, 1), 1);
        due("GREATEST has a lift of", number(yard, 4), "-1000000000");
        due("GREATEST touches", boundsOf(yard, 1), "0 5 14");
        ArchYard beyond = steep(false, 20441);
        due("too much", beyond.judge(0, 1), 0);
        due("NEVER", boundsOf(beyond, 2), "0 5 8 14");
    }

    private static void judgedLast() {
        ArchYard yard = block(0, 0);
        due("with slopes", yard.judge(0, 0), 1);
        due("LEAST", least(yard) + " touches " + boundsOf(yard, 0), "500 250 -50000 touches 1 2 5 7");
        due("without", yard.judge(0, 1), 1);
        due("LEAST of the last", least(yard) + " touches " + boundsOf(yard, 0), "0 250 0 touches 0 1 4 5 8");
        yard.arch(1);
        yard.place(1, 0, 0);
        yard.pier(1, 0, 0, 0, 0, 10);
        yard.pier(1, 1, 10, 10, 10, 0);
        yard.slope(1, 0, 1);
        due("another arch", yard.judge(1, 0), 0);
        due("NEVER of the last", never(yard), "2 7 by 1 1: -5000");
        due("no LEAST, no GREATEST", boundsOf(yard, 0) + boundsOf(yard, 1), "");
        due("the first one again", yard.judge(0, 0), 1);
        due("no NEVER", boundsOf(yard, 2), "");
        due("LEAST again", least(yard), "500 250 -50000");
    }

    /** Nothing of a long arch is left when a short one is asked about. */
    private static void shortAfterLong() {
        ArchYard yard = beam(0, 0, 0, 0, 0, 0, 0, 0, 0, 0);
        yard.arch(1);
        yard.place(1, 0, 0);
        yard.pier(1, 0, 0, 0, 0, 10);
        yard.pier(1, 1, 10, 10, 10, 0);
        due("ten stones", yard.judge(0, 0), 1);
        due("one stone", yard.judge(1, 0), 1);
        due("its LEAST", least(yard) + " touches " + boundsOf(yard, 0), "500 250 -50000 touches 1 2 5 7");
        yard.slope(0, 0, 1);
        yard.slope(1, 0, 1);
        due("ten stones slide", yard.judge(0, 0), 0);
        due("one stone slides", yard.judge(1, 0), 0);
        due("its NEVER", never(yard), "2 7 by 1 1: -5000");
        due("a line of ten", yard.line(0, 1, 1000, 250, 0), 8);
        due("a line of one", yard.line(1, 1, 1000, 250, 0), NONE);
        due("judged without slopes", yard.judge(0, 1) + " " + yard.judge(1, 1), "1 1");
        due("LEAST of one without slopes", least(yard) + " touches " + boundsOf(yard, 0), "0 250 0 touches 0 1 4 5 8");
    }

    private static void asItWas() {
        ArchYard yard = block(0, 0);
        yard.judge(0, 0);
        yard.load(0, 0, 50, 1000);
        due("before the load", least(yard), "500 250 -50000");
        yard.slope(0, 0, 1);
        due("before the slope", greatest(yard), "1000000000 -499999500 -100000000000");
        yard.pier(0, 0, 0, 2, 0, 4);
        yard.place(0, 0, WEDGE);
        due("before the pier and the place", boundsOf(yard, 0) + ", " + boundsOf(yard, 1), "1 2 5 7, 1 7 9");
        yard.place(0, 0, 0);
        yard.judge(0, 0);
        String never = never(yard);
        due("judged again", never, "2 7 by 5 1: -5000");
        yard.slope(0, 20, 1);
        due("before the last slope", never(yard), never);
        due("looking elsewhere", yard.line(0, 1, 0, 250, 0) + " " + yard.room(0) + " " + yard.strike(0, 0, 0), "-1 64 true");
        due("order", yard.order(0, 0), 0);
        due("changes nothing of it", never(yard), never);
    }

    private static void refusedJudge() {
        ArchYard yard = block(0, 0);
        yard.judge(0, 0);
        index("arch 1", () -> yard.judge(1, 0));
        argument("how 2", () -> yard.judge(0, 2));
        yard.place(0, 0, NONE);
        state("not whole", () -> yard.judge(0, 0));
        due("LEAST stays", least(yard) + " touches " + boundsOf(yard, 0), "500 250 -50000 touches 1 2 5 7");
        yard.place(0, 0, 0);
        yard.slope(0, 0, 1);
        yard.judge(0, 0);
        yard.place(0, 0, WEDGE);
        state("not whole", () -> yard.judge(0, 1));
        due("NEVER stays", never(yard), "2 7 by 1 1: -5000");
        state("and no number", () -> yard.number(0));
    }

    private static void numberWithoutALine() {
        ArchYard yard = block(0, 0);
        for (int what = 0; what < 6; what++) {
            int one = what;
            state("none judged, " + what, () -> yard.number(one));
        }
        state("none judged, no such what", () -> yard.number(6));
        yard.slope(0, 0, 1);
        yard.judge(0, 0);
        for (int what = 0; what < 6; what++) {
            int one = what;
            state("no safe line, " + what, () -> yard.number(one));
        }
        state("no safe line, no such what", () -> yard.number(-1));
        due("nothing is on the page", yard.count(3), 0);
    }

    private static void numberNoSuchWhat() {
        ArchYard yard = block(0, 0);
        yard.judge(0, 0);
        yard.number(0);
        for (int what : new int[] {-1, 6, LEAST_INT, GREATEST_INT}) argument("what " + what, () -> yard.number(what));
        due("the page stays", page(yard), "500");
    }

    private static void numbersAsTheyAreWritten() {
        ArchYard yard = block(3, 0);
        yard.judge(0, 1);
        due("0", number(yard, 0), "0");
        due("p / q", number(yard, 1), "325/2");
        due("a turn of 0", number(yard, 2), "0");
        due("q 1 left out", number(yard, 3), "1000000000");
        due("below 0, with q", number(yard, 4), "-999999675/2");
        due("below 0, q 1 left out", number(yard, 5), "-75000000000");
    }

    private static void lowestTerms() {
        ArchYard yard = beam(0, 0, 0);
        yard.load(0, 2, 300, 7);
        yard.judge(0, 0);
        due("LEAST", least(yard), "1507 1507/2 -100000");
        due("GREATEST", greatest(yard), "1000000000 -999997750/3 -100000000000");
    }

    private static void boundsWithoutOne() {
        ArchYard yard = block(0, 0);
        for (int which = -1; which <= 3; which++) due("none judged, " + which, yard.bound(which, 0), NONE);
        yard.judge(0, 0);
        due("LEAST's last", yard.bound(0, 3), 7);
        due("behind LEAST's last", yard.bound(0, 4), NONE);
        due("GREATEST's last", yard.bound(1, 2), 9);
        due("behind GREATEST's last", yard.bound(1, 3), NONE);
        for (int which = 0; which <= 2; which++) {
            for (int k : new int[] {-1, 48, LEAST_INT, GREATEST_INT}) due(which + ", " + k, yard.bound(which, k), NONE);
        }
        for (int which : new int[] {-1, 3, LEAST_INT, GREATEST_INT}) due("which " + which, yard.bound(which, 0), NONE);
        due("no NEVER", yard.bound(2, 0), NONE);
        yard.slope(0, 0, 1);
        yard.judge(0, 0);
        due("NEVER's last", yard.bound(2, 1), 7);
        due("behind NEVER's last", yard.bound(2, 2), NONE);
        due("before NEVER's first", yard.bound(2, -1), NONE);
        due("no LEAST, no GREATEST", yard.bound(0, 0) + yard.bound(1, 0), -2);
    }

    private static void neverOfTwo() {
        ArchYard yard = beam(0, 0);
        yard.slope(0, 0, 1);
        yard.judge(0, 0);
        due("the first of {2 7}, {2 11}, {6 11}", never(yard), "2 7 by 1 1: -5000");
        ArchYard springing = beam(2, 0);
        springing.slope(0, 0, 1);
        springing.judge(0, 0);
        due("where joint 0 has no slopes", never(springing), "6 11 by 1 1: -5000");
        due("one of them alone can be kept", beam(2, 2).judge(0, 0), 1);
    }

    /** A block that both piers hold at one face: at 0, 0 they must bear -m and m - 25000, or the like. */
    private static void neverOfTwoMoments() {
        ArchYard left = block(0, 0);
        left.pier(0, 1, 0, 0, 0, 10);
        left.judge(0, 1);
        due("the first bound and another", never(left), "0 5 by 1 1: -25000");
        // About 10, 0: -100 v + m and 100 v - m - 25000.
        ArchYard right = block(0, 0);
        right.pier(0, 0, 10, 10, 10, 0);
        right.judge(0, 1);
        due("two bounds side by side", never(right), "1 4 by 1 1: -25000");
        // Joints from 0 to 4 up and from 10 down to 6: -m; -m - 100 h + 25000; m + 60 h - 25000.
        ArchYard apart = block(0, 0);
        apart.pier(0, 0, 0, 0, 0, 4);
        apart.pier(0, 1, 0, 6, 0, 10);
        apart.judge(0, 1);
        due("three, where the lift does nothing", never(apart), "0 4 5 by 2 3 5: -50000");
    }

    /** With 0 over 4 joints 6 and 10 long give -24 v and 40 v - 20000, which are not made smaller themselves. */
    private static void leastWholeNumbers() {
        ArchYard yard = block(0, 0);
        yard.pier(0, 0, 0, 2, 0, 8);
        yard.slope(0, 0, 4);
        yard.judge(0, 0);
        due("24 goes into 120 as 40 does", never(yard), "2 7 by 5 3: -60000");
    }

    private static void neverAfterNever() {
        ArchYard yard = block(0, 0);
        yard.slope(0, 0, 1);
        yard.judge(0, 0);
        due("of two", never(yard), "2 7 by 1 1: -5000");
        yard.slope(0, 0, 2);
        yard.judge(0, 0);
        due("of two again", never(yard), "2 7 by 1 1: -10000");
        ArchYard longer = hanging();
        longer.judge(0, 1);
        due("of four", never(longer), "0 1 5 8 by 9 8 2 1: -10000");
        longer.slope(0, 0, 1);
        longer.judge(0, 0);
        due("of two after it", never(longer), "2 7 by 1 1: -200");
        longer.judge(0, 1);
        due("of four once more", never(longer), "0 1 5 8 by 9 8 2 1: -10000");
    }

    /** Downward joints: -10 h - 20 v; -10 h + 20 v - 10000; and h, which asks for a push. */
    private static void neverOfThree() {
        ArchYard yard = leftward(1);
        yard.judge(0, 0);
        due("with the frame", never(yard), "3 6 8 by 1 1 20: -10000");
        // Of a stone that hangs from both piers: -4 x 10 v and the like.
        ArchYard hung = block(0, 0);
        hung.pier(0, 0, 0, 10, 4, 10);
        hung.pier(0, 1, 6, 10, 10, 10);
        hung.judge(0, 1);
        due("100 v - ..", never(hung), "0 1 4 by 3 5 2: -50000");
    }

    private static void neverOfFour() {
        ArchYard yard = hanging();
        yard.judge(0, 1);
        due("of four", never(yard), "0 1 5 8 by 9 8 2 1: -10000");
    }

    private static void weighWithoutOne() {
        ArchYard yard = block(0, 0);
        for (int k = -1; k <= 5; k++) due("none judged, " + k, yard.weigh(k), NONE);
        yard.judge(0, 0);
        yard.number(0);
        for (int k = -1; k <= 5; k++) due("no NEVER, " + k, yard.weigh(k), NONE);
        due("the page stays", page(yard), "500");
        yard.slope(0, 0, 1);
        yard.judge(0, 0);
        for (int k : new int[] {-1, 2, 3, 5, LEAST_INT, GREATEST_INT}) due("of two, " + k, yard.weigh(k), NONE);
        due("the page stays still", page(yard), "500");
        due("what is left of two", weight(yard, 4), "-5000");
        ArchYard three = leftward(1);
        three.judge(0, 0);
        due("the third of three", weight(three, 2), "20");
        due("a fourth of three", three.weigh(3), NONE);
        due("the page stays as it is", page(three), "20");
        ArchYard four = hanging();
        four.judge(0, 1);
        due("the fourth of four", weight(four, 3), "1");
        due("a sixth", four.weigh(5), NONE);
    }

    private static void bytesOfThePage() {
        ArchYard yard = block(0, 0);
        due("of an empty page", yard.octet(0), NONE);
        yard.judge(0, 0);
        due("bytes", yard.number(2), 6);
        due("the page", page(yard), "-50000");
        due("the last byte", yard.octet(5), (int) '0');
        for (int k : new int[] {-1, 6, 80, LEAST_INT, GREATEST_INT}) due("octet " + k, yard.octet(k), NONE);
        due("fewer bytes", yard.number(0), 3);
        due("behind the last", yard.octet(3), NONE);
        due("where the one before had some", yard.octet(5), NONE);
        due("count", yard.count(3), 3);
    }

    private static void tellLines() {
        sentence("line, judge: no such ARCH", EdgeLinesTest::noSuchArch);
        sentence("line, judge: no such how (0, 1)", EdgeLinesTest::hows);
        sentence("line: h, v, m are beyond 1,000,000,000", EdgeLinesTest::numbersOfLines);
        sentence("line: h, v, m are 1,000,000,000 (either way)", EdgeLinesTest::farthestLines);
        sentence("it is not WHOLE (so below)", EdgeLinesTest::notWholeForEachReason);
        sentence("exceptions as the throws clause goes", EdgeLinesTest::argumentsBeforeWhole);
        sentence("BOUND 0, that must not be below 0", EdgeLinesTest::boundsAtA);
        sentence("BOUND 1, that must not be below 0", EdgeLinesTest::boundsAtB);
        sentence("BOUNDS 2 and 3, that must not be below 0", EdgeLinesTest::boundsOfSlopes);
        sentence("n = (d's second part, less its first)", EdgeLinesTest::slopesOfALeaningJoint);
        sentence("how 1: without", EdgeLinesTest::withoutSlopes);
        sentence("line: the first BOUND that is below 0", EdgeLinesTest::theFirstBelow);
        sentence("the JOINT that would be one more than the last: 0: h", EdgeLinesTest::pushNotBelowZero);
        sentence("A JOINT of a SPRINGER and a PIER has no 2 and 3", EdgeLinesTest::springersAtPiers);
        sentence("A JOINT at a FILLED (on either side)", EdgeLinesTest::filledOnEitherSide);
        sentence("A JOINT at a FILLED, its right one too", EdgeLinesTest::filledAtTheRightEnd);
        sentence("the points of its middle half", EdgeLinesTest::middleHalf);
        sentence("a quarter from A, a quarter from B", EdgeLinesTest::middleHalfInQuarters);
        sentence("its BOUNDS 0 and 1 are multiplied by 4", EdgeLinesTest::timesFour);
        sentence("of the JOINT itself, also at a FILLED", EdgeLinesTest::slopesOfTheJointItself);
        sentence("WEIGHTS and LOADS of the PLACES below k", EdgeLinesTest::whatIsAhead);
    }

    private static void tellJudging() {
        sentence("the least h, of these the least v, of these the least m", EdgeLinesTest::leastOfLeast);
        sentence("the greatest h, of these the least v", EdgeLinesTest::greatestPush);
        sentence("LEAST and GREATEST of one line", EdgeLinesTest::onlyOneLine);
        sentence("1: 1,000,000,000 - h", EdgeLinesTest::pushNotBeyondABillion);
        sentence("3: 1,000,000,000 - v", EdgeLinesTest::liftNotBeyondABillion);
        sentence("2: v + 1,000,000,000", EdgeLinesTest::liftNotBelowABillion);
        sentence("judge: of the ARCH and how judged last", EdgeLinesTest::judgedLast);
        sentence("judge: of the ARCH judged last, and of no other", EdgeLinesTest::shortAfterLong);
        sentence("judge: as it was", EdgeLinesTest::asItWas);
        sentence("judge: a refused one judges nothing", EdgeLinesTest::refusedJudge);
        sentence("number: none was judged, or it has no SAFE line", EdgeLinesTest::numberWithoutALine);
        sentence("number: no such what", EdgeLinesTest::numberNoSuchWhat);
        sentence("number: as - p / q, q 1 left out", EdgeLinesTest::numbersAsTheyAreWritten);
        sentence("number: in lowest terms", EdgeLinesTest::lowestTerms);
        sentence("bound: NONE without one, and where there is no such line", EdgeLinesTest::boundsWithoutOne);
        sentence("NEVER: the smallest number of BOUNDS, the first one", EdgeLinesTest::neverOfTwo);
        sentence("NEVER: two, where a moment is kept by none", EdgeLinesTest::neverOfTwoMoments);
        sentence("NEVER: the least whole number above 0", EdgeLinesTest::leastWholeNumbers);
        sentence("NEVER of what was judged last alone", EdgeLinesTest::neverAfterNever);
        sentence("NEVER: three", EdgeLinesTest::neverOfThree);
        sentence("NEVER: or four", EdgeLinesTest::neverOfFour);
        sentence("weigh: NONE, and the PAGE stays, without one", EdgeLinesTest::weighWithoutOne);
        sentence("octet: Byte k of the PAGE; NONE", EdgeLinesTest::bytesOfThePage);
    }

    public static void main(String[] args) {
        tellLines();
        tellJudging();
        finish();
    }
}
