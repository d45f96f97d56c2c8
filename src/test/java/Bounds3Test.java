/**
 * The boundary cases of part 3 (meetings, orders, starts, doors, keys, rules), a
 * test for each sentence of the document that names one.
 */
public final class Bounds3Test {
    private static final int NONE = WovenRows.NONE;
    private static final int UNKNOWN = WovenRows.UNKNOWN;
    private static final int OUTSIDE = WovenRows.OUTSIDE;
    private static final int[] FAR = {Integer.MIN_VALUE, -1000000, 1000000, Integer.MAX_VALUE};
    private static final Check check = new Check();

    public static void main(String[] args) {
        setsOutAndLeaves();
        setsOutByItsPlace();
        meetsFromEndToEnd();
        meetsTheOtherRowAlone();
        clearsInACell();
        clearsBetweenTwoCells();
        firstByWhenTheyMeet();
        firstByThePlaceInRowZero();
        meetsByZeroToThree();
        longTillTheLastLeaves();
        orderOfNobodyAndOfOne();
        orderOfAsManyDigits();
        orderOfFewest();
        orderByBothDelays();
        orderOutside();
        startByZeroToTwenty();
        startOfNobody();
        startOutside();
        doorOfEveryCell();
        doorByZeroToThirty();
        doorOutside();
        keysThatGrate();
        silentOnesDoNotGrate();
        keysBeginAnew();
        grateOfNobody();
        grateOutside();
        tenRulesAtMost();
        rulesOfTwoMembers();
        rulesGo();
        ordersOfNobodyAndOfOne();
        ordersThatCanNotBe();
        ordersOfThoseWhoAreBothInTheRow();
        ordersOutside();
        whoeverTheyAre();
        check.end();
    }

    private static WovenRows widePair() {
        WovenRows x = Check.behind("AdJu");
        x.member(0, 15, 12);
        return x;
    }

    private static void startsApart(WovenRows x, int beats) {
        x.delay(0, beats < 0 ? -beats : 0);
        x.delay(1, beats < 0 ? 0 : beats);
    }

    private static void meetings(String label, WovenRows x, int twos, int clashes, int first, int where) {
        check.due("meets(0) " + label, x.meets(0), twos);
        check.due("meets(1) " + label, x.meets(1), clashes);
        check.due("meets(2) " + label, x.meets(2), first);
        check.due("meets(3) " + label, x.meets(3), where);
    }

    private static void seenOnce(WovenRows x, int cell, int beat, int twos, int lates) {
        x.forget();
        x.seen(cell, beat);
        check.due("who(0) of cell " + cell + " at beat " + beat, x.who(0), twos);
        check.due("who(2) of cell " + cell + " at beat " + beat, x.who(2), lates);
    }

    // "(ROW 0 from CELL 0, ROW 1 from CELL 16), and goes one CELL a beat till the
    // other end, where it leaves at the next beat."
    private static void setsOutAndLeaves() {
        for (int row = 0; row <= 1; row++) {
            WovenRows x = Check.behind(row == 0 ? "Ad" : "Au");
            x.delay(row, 20);
            int from = row == 0 ? 0 : 16;
            seenOnce(x, from, 19, 0, 0);
            for (int gone = 0; gone <= 16; gone++) {
                seenOnce(x, row == 0 ? gone : 16 - gone, 20 + gone, 1, 1);
            }
            seenOnce(x, 16 - from, 37, 1, 2);
            seenOnce(x, 16 - from, 45, 1, 512);
            seenOnce(x, 16 - from, 46, 0, 0);
            seenOnce(x, from, 36, 0, 0);
        }
    }

    // "Who is in place i of a ROW sets out at beat DELAY and i".
    private static void setsOutByItsPlace() {
        WovenRows x = Check.behind("AdBdCdDdEdFd");
        x.delay(0, 4);
        seenOnce(x, 0, 3, 0, 0);
        seenOnce(x, 0, 4, 1, 1);
        check.due("the first in time", x.who(1), 1);
        seenOnce(x, 0, 18, 1, 512);
        check.due("the last nine beats late", x.who(1), 32);
        seenOnce(x, 0, 19, 0, 0);
        seenOnce(x, 0, 9, 6, 63);
        check.due("all six, each late by its own", x.who(1), 63);
    }

    // "MEET in a CELL, in which both are at one beat, or between two CELLS, if they
    // change these in one beat"; "where: twice the CELL (between two: twice the lesser and 1; NONE)".
    private static void meetsFromEndToEnd() {
        WovenRows x = widePair();
        for (int apart = -20; apart <= 20; apart++) {
            startsApart(x, apart);
            String label = "with row 1 later by " + apart;
            if (apart < -16 || apart > 16) {
                meetings(label, x, 0, 0, NONE, NONE);
            } else {
                meetings(label, x, 1, 1, 9, 16 + apart);
            }
        }
    }

    // "Two of both ROWS MEET".
    private static void meetsTheOtherRowAlone() {
        meetings("of nobody", new WovenRows(), 0, 0, NONE, NONE);
        WovenRows x = Check.behind("AdBdCdDdEdFd");
        x.wide(8, 1);
        meetings("of row 0 alone", x, 0, 0, NONE, NONE);
        WovenRows y = Check.behind("AuBuCuDuEuFu");
        y.wide(8, 1);
        meetings("of row 1 alone", y, 0, 0, NONE, NONE);
        meetings("of six and four", Check.behind("AdBdCdDdEdFdGuHuIuJu"), 24, 0, NONE, NONE);
        WovenRows z = Check.behind("AdBdCdDdEdFdGuHuIuJu");
        z.delay(0, 20);
        meetings("of whom row 1 has left as row 0 sets out", z, 0, 0, NONE, NONE);
        z.delay(0, 19);
        meetings("of whom the first of row 0 meets the last of row 1", z, 1, 0, NONE, NONE);
        z.delay(0, 13);
        meetings("of whom the fifth and sixth of row 0 miss the first of row 1, the sixth the second", z, 21, 0, NONE, NONE);
    }

    // "They CLEAR each other, if the CELL is as WIDE as both WIDTHS together at least".
    private static void clearsInACell() {
        WovenRows x = Check.behind("AdJu");
        x.member(0, 15, 12);
        x.member(9, 15, 12);
        x.wide(8, 30);
        meetings("30 in 30", x, 1, 0, NONE, NONE);
        x.wide(8, 29);
        meetings("30 in 29", x, 1, 1, 9, 16);
        x.member(0, 1, 12);
        x.member(9, 1, 12);
        x.wide(8, 2);
        meetings("2 in 2", x, 1, 0, NONE, NONE);
        x.wide(8, 1);
        meetings("2 in 1", x, 1, 1, 9, 16);
        x.member(9, 14, 12);
        x.wide(8, 15);
        x.wide(7, 1);
        x.wide(9, 1);
        meetings("15 in 15, the cells beside being narrow", x, 1, 0, NONE, NONE);
    }

    // "(between two CELLS: both of them)".
    private static void clearsBetweenTwoCells() {
        WovenRows x = widePair();
        x.delay(0, 1);
        int[][] wide = {{20, 20, 0}, {19, 20, 1}, {20, 19, 1}, {19, 19, 1}, {30, 19, 1}, {19, 30, 1}, {20, 30, 0}};
        for (int[] each : wide) {
            x.wide(7, each[0]);
            x.wide(8, each[1]);
            check.due("between " + each[0] + " and " + each[1], x.meets(1), each[2]);
            check.due("where", x.meets(3), each[2] == 1 ? 15 : NONE);
        }
        x.wide(7, 20);
        x.wide(8, 20);
        x.wide(6, 1);
        x.wide(9, 1);
        check.due("the cells beside both do not count", x.meets(1), 0);
        WovenRows y = widePair();
        y.delay(0, 15);
        y.wide(0, 20);
        check.due("between 0 and 1, one being narrow", y.meets(3), 1);
        y.wide(1, 20);
        check.due("between 0 and 1, both being wide", y.meets(3), NONE);
        startsApart(y, 15);
        y.wide(16, 20);
        check.due("between 15 and 16, one being narrow", y.meets(3), 31);
        y.wide(15, 20);
        check.due("between 15 and 16, both being wide", y.meets(3), NONE);
    }

    // "the first that CLASH (by when they MEET": between two cells it is later than in the one, sooner than in the other.
    private static void firstByWhenTheyMeet() {
        // B with E half a beat ahead of A with G, who are of a lower place.
        WovenRows x = Check.behind("AdBdEuFuGu");
        for (int member = 0; member < 10; member++) {
            x.member(member, member == 1 || member == 6 ? 15 : 1, 12);
        }
        meetings("between two cells, ahead of in a cell", x, 6, 4, 14, 15);
        // B with F half a beat ahead of A with H.
        WovenRows y = Check.behind("AdBdEuFuGuHu");
        int[] width = {1, 7, 1, 1, 1, 7, 1, 15, 1, 1};
        for (int member = 0; member < 10; member++) {
            y.member(member, width[member], 12);
        }
        meetings("in a cell, ahead of between two", y, 8, 3, 15, 16);
        y.delay(0, 3);
        y.delay(1, 3);
        meetings("with both rows later", y, 8, 3, 15, 16);
    }

    // "of one time by the place in ROW 0": not by the member, and not by row 1.
    private static void firstByThePlaceInRowZero() {
        WovenRows x = Check.behind("CdAdFuEu");
        for (int member = 0; member < 10; member++) {
            x.member(member, 15, 12);
        }
        meetings("the first two of all", x, 4, 4, 25, 16);
        x.wide(8, 30);
        meetings("of one time, C with E and A with F", x, 4, 2, 24, 17);
        x.wide(9, 30);
        meetings("just A with F", x, 4, 1, 5, 15);
        x.wide(7, 30);
        meetings("none", x, 4, 0, NONE, NONE);
    }

    // "how many (what = 0), how many CLASH (1), the first (2; NONE), where (3; NONE). OUTSIDE."
    private static void meetsByZeroToThree() {
        WovenRows x = widePair();
        check.due("meets(-1)", x.meets(-1), OUTSIDE);
        check.due("meets(4)", x.meets(4), OUTSIDE);
        for (int far : FAR) {
            check.due("meets(" + far + ")", x.meets(far), OUTSIDE);
        }
        WovenRows y = Check.behind("AdBuBxA");
        y.member(0, 15, 12);
        meetings("10 times the member of row 0", y, 1, 1, 10, 16);
        y = Check.behind("JdIu");
        y.member(9, 15, 12);
        meetings("the greatest two", y, 1, 1, 98, 16);
    }

    // "LONG: the beat at which the last one leaves (0: nobody goes)."
    private static void longTillTheLastLeaves() {
        WovenRows x = new WovenRows();
        x.delay(0, 20);
        x.delay(1, 20);
        check.due("nobody, whatever the delays", x.runs(), 0);
        Check.tell(x, "Ad").done();
        check.due("one of row 0", x.runs(), 37);
        Check.tell(x, "A-Au").done();
        check.due("one of row 1", x.runs(), 37);
        x.delay(1, 0);
        check.due("without a delay; row 0's delay is nobody's", x.runs(), 17);
        Check.tell(x, "BdCdDdEdFdGd").done();
        check.due("the most there is", x.runs(), 42);
        x.delay(0, 0);
        x.delay(1, 5);
        check.due("both alike", x.runs(), 22);
        x.delay(1, 6);
        check.due("row 1 the later", x.runs(), 23);
        Check.tell(x, "A-").done();
        check.due("row 0 alone", x.runs(), 22);
    }

    private static void ordered(String label, WovenRows x, int row, int clashes, int number) {
        check.due("order(" + row + ", 0) " + label, x.order(row, 0), clashes);
        check.due("order(" + row + ", 1) " + label, x.order(row, 1), number);
    }

    // "the order (1; nobody: 0)".
    private static void orderOfNobodyAndOfOne() {
        ordered("of nobody", new WovenRows(), 0, 0, 0);
        ordered("of nobody", new WovenRows(), 1, 0, 0);
        WovenRows x = widePair();
        ordered("of A, who clashes", x, 0, 1, 0);
        ordered("of J, who clashes", x, 1, 1, 9);
        Check.tell(x, "A-").done();
        ordered("of nobody, one being in the other row", x, 0, 0, 0);
        ruled("of nobody, behind order()", x, 0, 1, 0);
        ordered("of nobody, behind orders()", x, 0, 0, 0);
        ruled("of J, behind order()", x, 1, 1, 9);
        ordered("of J, behind orders()", x, 1, 0, 9);
        ordered("of one, nobody being in the other row", x, 1, 0, 9);
    }

    // "the first such order (a number of as many digits; the least)".
    private static void orderOfAsManyDigits() {
        ordered("of six with A ahead", Check.behind("FdEdDdCdBdAd"), 0, 0, 12345);
        ordered("of the six greatest", Check.behind("JuIuHuGuFuEu"), 1, 0, 456789);
        ordered("of two with A ahead", Check.behind("BdAd"), 0, 0, 1);
        ordered("of two", Check.behind("JdBd"), 0, 0, 19);
    }

    // "of the MEMBERS of a ROW, in any order, the fewest CLASHES".
    private static void orderOfFewest() {
        for (int row = 0; row <= 1; row++) {
            WovenRows x = Check.behind(row == 0 ? "AdBdCdDdEdFdJu" : "AuBuCuDuEuFuJd");
            int[] width = {9, 11, 11, 13, 13, 15};
            for (int member = 0; member < 6; member++) {
                x.member(member, width[member], 12);
            }
            // By its place each meets J in 8, between it and the next, in the next, and so on.
            for (int i = 0; i < 4; i++) {
                x.wide(row == 0 ? 8 - i : 8 + i, 20 - 2 * i);
            }
            ordered("where the widest must go first", x, row, 0, 534120);
            x.member(9, 6, 12);
            ordered("where two must clash", x, row, 2, 312045);
            ordered("of J alone", x, 1 - row, x.meets(1), 9);
        }
    }

    // "ORDER" by how late both ROWS set out.
    private static void orderByBothDelays() {
        for (int row = 0; row <= 1; row++) {
            WovenRows x = Check.behind(row == 0 ? "AdBdCdJu" : "AuBuCuJd");
            x.member(0, 15, 12);
            // Who sets out two beats later than J meets it in the one wide cell.
            x.wide(row == 0 ? 7 : 9, 20);
            ordered("where the one of the third place clears", x, row, 0, 120);
            x.delay(row, 1);
            ordered("a beat late, that of the second place", x, row, 0, 102);
            x.delay(row, 2);
            ordered("two beats late, that of the first place", x, row, 0, 12);
            x.delay(row, 3);
            ordered("three beats late, none", x, row, 1, 12);
            x.delay(1 - row, 2);
            ordered("the other row two beats late, that of the second place", x, row, 0, 102);
            x.delay(row, 20);
            ordered("too late to meet", x, row, 0, 12);
        }
    }

    // "order: OUTSIDE: the ROW, too."
    private static void orderOutside() {
        WovenRows x = Check.behind("AdJu");
        check.due("order(-1, 0)", x.order(-1, 0), OUTSIDE);
        check.due("order(2, 0)", x.order(2, 0), OUTSIDE);
        check.due("order(0, -1)", x.order(0, -1), OUTSIDE);
        check.due("order(1, 2)", x.order(1, 2), OUTSIDE);
        for (int far : FAR) {
            check.due("order(" + far + ", 0)", x.order(far, 0), OUTSIDE);
            check.due("order(0, " + far + ")", x.order(0, far), OUTSIDE);
        }
    }

    // "START: the DELAY of ROW 0 (0 to 20) by which there are fewest CLASHES, the least of several; how many."
    private static void startByZeroToTwenty() {
        WovenRows x = widePair();
        x.delay(1, 3);
        for (int now = 0; now <= 20; now += 5) {
            x.delay(0, now);
            check.due("start(0) by the last delay, being " + now, x.start(0), 0);
            check.due("start(1) by the last delay, being " + now, x.start(1), 20);
            check.due("the delay stays", x.told(6), now);
        }
        x.delay(1, 4);
        check.due("start(0) by none but a 21st", x.start(0), 1);
        check.due("start(1): the least of all", x.start(1), 0);
        x.delay(1, 16);
        check.due("start(1) where 0 still meets in 16", x.start(1), 0);
        check.due("start(0) where 0 still meets in 16", x.start(0), 1);
        x.delay(1, 17);
        check.due("start(0) where 0 misses", x.start(0), 0);
        check.due("start(1) where 0 misses", x.start(1), 0);
        x.delay(1, 10);
        x.wide(5, 20);
        x.wide(6, 20);
        x.wide(7, 20);
        // Row 0 later by d meets in spot 26 - d: 10 to 14 are wide.
        check.due("start(1): the least of several", x.start(1), 12);
        check.due("start(0): the least of several", x.start(0), 0);
    }

    // "START" where nobody goes, or nobody of one row.
    private static void startOfNobody() {
        for (String days : new String[] {"", "Ad", "Au", "AdBdCd"}) {
            WovenRows x = Check.behind(days);
            x.delay(0, 9);
            x.wide(8, 1);
            check.due("start(0) of '" + days + "'", x.start(0), 0);
            check.due("start(1) of '" + days + "'", x.start(1), 0);
        }
    }

    // "start: OUTSIDE."
    private static void startOutside() {
        WovenRows x = widePair();
        check.due("start(-1)", x.start(-1), OUTSIDE);
        check.due("start(2)", x.start(2), OUTSIDE);
        for (int far : FAR) {
            check.due("start(" + far + ")", x.start(far), OUTSIDE);
        }
    }

    // "DOOR: the CELL ... so that there are fewest CLASHES, the least of several; how many."
    private static void doorOfEveryCell() {
        for (int cell = 0; cell <= 16; cell++) {
            WovenRows x = widePair();
            startsApart(x, 2 * cell - 16);
            check.due("where they meet", x.meets(3), 2 * cell);
            check.due("door(8, 0) of cell " + cell, x.door(8, 0), 0);
            check.due("door(8, 1) of cell " + cell, x.door(8, 1), cell);
            check.due("door(7, 0) of cell " + cell, x.door(7, 0), 1);
            check.due("door(7, 1): the least of all", x.door(7, 1), 0);
            check.due("the cell is as it was", x.told(20 + cell), 12);
        }
        WovenRows y = Check.behind("AdBdCdJu");
        y.member(9, 15, 12);
        check.due("door(8, 0) of two cells", y.door(8, 0), 2);
        check.due("door(8, 1): the least of two cells, A's 8 and C's 7", y.door(8, 1), 7);
        y.wide(7, 20);
        check.due("door(8, 0) by which A and B clear J", y.door(8, 0), 0);
        check.due("door(8, 1) by which A and B clear J", y.door(8, 1), 8);
        check.due("door(8, 0) of nobody", new WovenRows().door(8, 0), 0);
        check.due("door(8, 1) of nobody", new WovenRows().door(8, 1), 0);
    }

    // "v (0 to 30) more WIDE".
    private static void doorByZeroToThirty() {
        WovenRows x = Check.behind("AdJu");
        x.member(0, 15, 12);
        x.member(9, 15, 12);
        x.wide(8, 1);
        for (int v = 0; v <= 30; v++) {
            check.due("door(" + v + ", 0)", x.door(v, 0), v < 29 ? 1 : 0);
            check.due("door(" + v + ", 1)", x.door(v, 1), v < 29 ? 0 : 8);
        }
        x.wide(8, 30);
        check.due("door(30, 1) of a street without clashes", x.door(30, 1), 0);
        x.delay(1, 1);
        check.due("door(30, 0) between two narrow cells, one of which is 30", x.door(30, 0), 0);
        check.due("door(30, 1) between two, one of which is 30", x.door(30, 1), 9);
        x.wide(8, 29);
        check.due("door(30, 0) between two narrow cells", x.door(30, 0), 1);
        check.due("door(30, 1) between two narrow cells", x.door(30, 1), 0);
    }

    // "door: OUTSIDE."
    private static void doorOutside() {
        WovenRows x = widePair();
        check.due("door(-1, 0)", x.door(-1, 0), OUTSIDE);
        check.due("door(31, 0)", x.door(31, 0), OUTSIDE);
        check.due("door(0, -1)", x.door(0, -1), OUTSIDE);
        check.due("door(30, 2)", x.door(30, 2), OUTSIDE);
        for (int far : FAR) {
            check.due("door(" + far + ", 0)", x.door(far, 0), OUTSIDE);
            check.due("door(0, " + far + ")", x.door(0, far), OUTSIDE);
        }
    }

    // "if their KEYS differ by 1, 6 or 11".
    private static void keysThatGrate() {
        WovenRows x = Check.behind("AdJu");
        for (int a = 0; a < 12; a++) {
            x.member(0, 5, a);
            for (int b = 0; b < 12; b++) {
                x.member(9, 5, b);
                int apart = a > b ? a - b : b - a;
                check.due("grate(0) of " + a + " and " + b, x.grate(0), apart == 1 || apart == 6 || apart == 11 ? 1 : 0);
            }
        }
    }

    // "two who MEET, and are not silent".
    private static void silentOnesDoNotGrate() {
        WovenRows x = Check.behind("AdJu");
        for (int key = 0; key <= 12; key++) {
            x.member(0, 5, key);
            x.member(9, 5, 12);
            check.due("grate(0) of " + key + " and a silent one", x.grate(0), 0);
            check.due("grate(1) of " + key + " and a silent one", x.grate(1), 0);
            check.due("grate(2) of " + key + " and a silent one", x.grate(2), 0);
            x.member(0, 5, 12);
            x.member(9, 5, key);
            check.due("grate(0) of a silent one and " + key, x.grate(0), 0);
            check.due("grate(1) of a silent one and " + key, x.grate(1), 0);
            check.due("grate(2) of a silent one and " + key, x.grate(2), 0);
        }
        x.member(0, 5, 3);
        x.member(9, 5, 4);
        startsApart(x, 16);
        check.due("grate(0) of two who meet in 16", x.grate(0), 1);
        startsApart(x, 17);
        check.due("grate(0) of two who do not meet", x.grate(0), 0);
        check.due("grate(1) of two who do not meet", x.grate(1), 0);
        startsApart(x, -16);
        check.due("grate(0) of two who meet in 0", x.grate(0), 1);
        check.due("grate(1) of two who meet in 0", x.grate(1), 1);
        startsApart(x, -17);
        check.due("grate(0) of two who do not meet", x.grate(0), 0);
    }

    // "if all KEYS of ROW 1 were k (0 to 11) more (less 12 from 12 on), the k by which
    // fewest do, the least; how many then."
    private static void keysBeginAnew() {
        // With 1, 2, 3, 4, 7 every key but 11 grates.
        WovenRows x = Check.behind("AdBdCdDdEdJu");
        int[] key = {1, 2, 3, 4, 7};
        for (int member = 0; member < 5; member++) {
            x.member(member, 5, key[member]);
        }
        for (int b = 0; b < 12; b++) {
            x.member(9, 5, b);
            check.due("grate(1) of " + b, x.grate(1), 11 - b);
            check.due("grate(2) of " + b, x.grate(2), 0);
        }
        // Several are as few: the least k.
        WovenRows y = Check.behind("AdJu");
        y.member(0, 5, 5);
        y.member(9, 5, 11);
        check.due("grate(0) of 5 and 11", y.grate(0), 1);
        check.due("grate(1): 12 is 0, the least of several", y.grate(1), 1);
        check.due("grate(2)", y.grate(2), 0);
        y.member(0, 5, 1);
        check.due("grate(1) of 1 and 11: nothing more is needed", y.grate(1), 0);
        // 0 and 1 grate with 11, and with 12, 13, 14, which are 0, 1, 2; not with 15, which is 3.
        y = Check.behind("AdBdJu");
        y.member(0, 5, 0);
        y.member(1, 5, 1);
        y.member(9, 5, 11);
        check.due("grate(0) of 0, 1 and 11", y.grate(0), 1);
        check.due("grate(1) of 0, 1 and 11", y.grate(1), 4);
        check.due("grate(2) of 0, 1 and 11", y.grate(2), 0);
        // All even keys: an odd key grates with two, an even one with the one 6 away, also from 12 on.
        WovenRows z = Check.behind("AdBdCdDdEdFdJu");
        for (int member = 0; member < 6; member++) {
            z.member(member, 5, 2 * member);
        }
        for (int b = 0; b < 12; b++) {
            z.member(9, 5, b);
            check.due("grate(0) of all even keys and " + b, z.grate(0), b % 2 + 1);
            check.due("grate(1) of all even keys and " + b, z.grate(1), b % 2);
            check.due("grate(2) of all even keys and " + b, z.grate(2), 1);
        }
    }

    // "GRATE" where nobody goes, or nobody of one row.
    private static void grateOfNobody() {
        for (String days : new String[] {"", "AdBd", "AuBu"}) {
            WovenRows x = Check.behind(days);
            x.member(0, 5, 0);
            x.member(1, 5, 1);
            for (int what = 0; what <= 2; what++) {
                check.due("grate(" + what + ") of '" + days + "'", x.grate(what), 0);
            }
        }
    }

    // "grate: OUTSIDE."
    private static void grateOutside() {
        WovenRows x = Check.behind("AdJu");
        check.due("grate(-1)", x.grate(-1), OUTSIDE);
        check.due("grate(3)", x.grate(3), OUTSIDE);
        for (int far : FAR) {
            check.due("grate(" + far + ")", x.grate(far), OUTSIDE);
        }
    }

    // "RULES, 10 at most"; "A RULE more: how many ... FULL".
    private static void tenRulesAtMost() {
        WovenRows x = Check.behind("AdBd");
        for (int i = 1; i <= 9; i++) {
            check.due("rule " + i, x.rule(0, i), i);
        }
        check.due("the tenth", x.rule(9, 0), 10);
        check.due("the eleventh", x.rule(1, 0), WovenRows.FULL);
        check.due("the eleventh, as one told already", x.rule(0, 1), WovenRows.FULL);
        check.due("it is no rule", x.orders(0, 0), 1);
        check.due("rules", x.told(4), 10);
    }

    // "rule: UNKNOWN: both, also one", which is ahead of FULL.
    private static void rulesOfTwoMembers() {
        WovenRows x = new WovenRows();
        for (int round = 0; round < 2; round++) {
            for (int member = 0; member <= 9; member++) {
                check.due("rule(-1, " + member + ")", x.rule(-1, member), UNKNOWN);
                check.due("rule(10, " + member + ")", x.rule(10, member), UNKNOWN);
                check.due("rule(" + member + ", -1)", x.rule(member, -1), UNKNOWN);
                check.due("rule(" + member + ", 10)", x.rule(member, 10), UNKNOWN);
                check.due("both are one, " + member, x.rule(member, member), UNKNOWN);
            }
            check.due("rule(-1, 10)", x.rule(-1, 10), UNKNOWN);
            for (int far : FAR) {
                check.due("rule(" + far + ", 0)", x.rule(far, 0), UNKNOWN);
                check.due("rule(0, " + far + ")", x.rule(0, far), UNKNOWN);
                check.due("rule(" + far + ", " + far + ")", x.rule(far, far), UNKNOWN);
            }
            check.due("rules", x.told(4), 10 * round);
            while (x.told(4) < 10) {
                x.rule(9, 0);
            }
        }
    }

    // "RULES go: how many there were."
    private static void rulesGo() {
        WovenRows x = Check.behind("AdBd");
        check.due("none", x.unrule(), 0);
        for (int i = 0; i < 10; i++) {
            x.rule(1, 0);
        }
        check.due("B is ahead", x.orders(0, 1), 10);
        check.due("ten", x.unrule(), 10);
        check.due("none again", x.unrule(), 0);
        check.due("A is ahead", x.orders(0, 1), 1);
        check.due("a first rule again", x.rule(1, 0), 1);
    }

    private static void ruled(String label, WovenRows x, int row, int count, int first) {
        check.due("orders(" + row + ", 0) " + label, x.orders(row, 0), count);
        check.due("orders(" + row + ", 1) " + label, x.orders(row, 1), first);
    }

    // "how many (what = 0; of nobody 1), the first (1; of nobody 0".
    private static void ordersOfNobodyAndOfOne() {
        WovenRows x = new WovenRows();
        ruled("of nobody", x, 0, 1, 0);
        ruled("of nobody", x, 1, 1, 0);
        x.rule(0, 1);
        x.rule(1, 0);
        ruled("of nobody, with rules that can not both hold", x, 0, 1, 0);
        Check.tell(x, "AdBu").done();
        ruled("of one", x, 0, 1, 0);
        ruled("of one", x, 1, 1, 1);
        ruled("of six without rules", Check.behind("FdEdDdCdBdAd"), 0, 720, 12345);
        ruled("of six without rules", Check.behind("JuIuHuGuFuEu"), 1, 720, 456789);
        ruled("of two without rules", Check.behind("JuIu"), 1, 2, 89);
    }

    // "NONE".
    private static void ordersThatCanNotBe() {
        WovenRows x = Check.behind("AdBdCd");
        x.rule(0, 1);
        x.rule(1, 0);
        ruled("by two that can not both hold", x, 0, 0, NONE);
        ruled("of nobody all the same", x, 1, 1, 0);
        x.unrule();
        x.rule(0, 1);
        x.rule(1, 2);
        ruled("in a line", x, 0, 1, 12);
        x.rule(2, 0);
        ruled("in a ring", x, 0, 0, NONE);
        Check.tell(x, "B-").done();
        ruled("the ring is broken", x, 0, 1, 20);
    }

    // "by which all RULES hold for those two who are both in it".
    private static void ordersOfThoseWhoAreBothInTheRow() {
        WovenRows x = Check.behind("AdBdJu");
        x.rule(9, 0);
        x.rule(1, 9);
        x.rule(4, 0);
        ruled("with one of both in the other row or at home", x, 0, 2, 1);
        Check.tell(x, "JxBEd").done();
        ruled("J for B in the row, and E", x, 0, 2, 490);
        ruled("B in the other row", x, 1, 1, 1);
        x.rule(9, 0);
        ruled("by a rule told twice", x, 0, 2, 490);
    }

    // "orders: OUTSIDE: the ROW, too."
    private static void ordersOutside() {
        WovenRows x = Check.behind("AdJu");
        check.due("orders(-1, 0)", x.orders(-1, 0), OUTSIDE);
        check.due("orders(2, 0)", x.orders(2, 0), OUTSIDE);
        check.due("orders(0, -1)", x.orders(0, -1), OUTSIDE);
        check.due("orders(1, 2)", x.orders(1, 2), OUTSIDE);
        for (int far : FAR) {
            check.due("orders(" + far + ", 0)", x.orders(far, 0), OUTSIDE);
            check.due("orders(0, " + far + ")", x.orders(0, far), OUTSIDE);
        }
    }

    // "MEMBERS 0 to 9": what is told of two is told of any two.
    private static void whoeverTheyAre() {
        for (int a = 0; a <= 9; a++) {
            for (int b = 0; b <= 9; b++) {
                if (a != b) {
                    anyTwo(a, b);
                }
            }
        }
    }

    private static void anyTwo(int a, int b) {
        String label = "of " + a + " down and " + b + " up";
        WovenRows x = Check.behind((char) ('A' + a) + "d" + (char) ('A' + b) + "u");
        x.member(a, 7, 0);
        x.member(b, 6, 1);
        meetings(label, x, 1, 1, 10 * a + b, 16);
        ordered(label, x, 0, 1, a);
        ordered(label, x, 1, 1, b);
        check.due("start(1) " + label, x.start(1), 17);
        check.due("door(1, 1) " + label, x.door(1, 1), 8);
        check.due("grate(0) " + label, x.grate(0), 1);
        check.due("grate(1) " + label, x.grate(1), 1);
        check.due("orders(0, 1) " + label, x.orders(0, 1), a);
        check.due("orders(1, 1) " + label, x.orders(1, 1), b);
        x.seen(7, 7);
        check.due("who(1) of row 0 " + label, x.who(1), 1 << a);
        x.forget();
        x.seen(7, 9);
        check.due("who(1) of row 1 " + label, x.who(1), 1 << a | 1 << b);
    }
}
