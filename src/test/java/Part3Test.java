/** Promises 13 to 21: meetings, orders, starts, doors, keys, rules. */
public final class Part3Test {
    private static final int NONE = WovenRows.NONE;
    private static final int OUTSIDE = WovenRows.OUTSIDE;
    private static final Check check = new Check();

    public static void main(String[] args) {
        promise13Meets();
        promise13FirstOfOneTime();
        promise14Runs();
        promise15Order();
        promise16Start();
        promise17Door();
        promise18Grate();
        promise19Rule();
        promise20Unrule();
        promise21Orders();
        check.end();
    }

    private static void meetings(String label, WovenRows x, int twos, int clashes, int first, int where) {
        check.due("meets(0) " + label, x.meets(0), twos);
        check.due("meets(1) " + label, x.meets(1), clashes);
        check.due("meets(2) " + label, x.meets(2), first);
        check.due("meets(3) " + label, x.meets(3), where);
    }

    private static void promise13Meets() {
        meetings("of nobody", new WovenRows(), 0, 0, NONE, NONE);
        meetings("of one row", Check.behind("AdBd"), 0, 0, NONE, NONE);
        WovenRows x = Check.behind("AdJu");
        x.member(0, 7, 12);
        meetings("just as wide as the cell", x, 1, 0, NONE, NONE);
        x.member(0, 8, 12);
        meetings("one too wide", x, 1, 1, 9, 16);
        x.wide(8, 13);
        meetings("in the wider cell", x, 1, 0, NONE, NONE);
        x.delay(0, 1);
        meetings("between 7 and 8", x, 1, 1, 9, 15);
        x.wide(7, 13);
        meetings("between two wider cells", x, 1, 0, NONE, NONE);
        x.wide(8, 12);
        meetings("between a wider one and another", x, 1, 1, 9, 15);
        x.delay(0, 16);
        meetings("in cell 0", x, 1, 1, 9, 0);
        x.wide(0, 13);
        meetings("in the wider cell 0", x, 1, 0, NONE, NONE);
        x.delay(0, 17);
        meetings("one beat too late", x, 0, 0, NONE, NONE);
        x.delay(0, 0);
        x.delay(1, 16);
        meetings("in cell 16", x, 1, 1, 9, 32);
        x.delay(1, 15);
        meetings("between 15 and 16", x, 1, 1, 9, 31);
        x.delay(1, 17);
        meetings("one beat too late the other way", x, 0, 0, NONE, NONE);
        check.due("meets(-1)", x.meets(-1), OUTSIDE);
        check.due("meets(4)", x.meets(4), OUTSIDE);
        meetings("of two rows of four", Check.behind("AdBdCdDdEuFuGuHu"), 16, 0, NONE, NONE);
        WovenRows y = Check.behind("AdBdCdDdEuFuGuHu");
        y.delay(0, 14);
        meetings("of which some are too late", y, 15, 0, NONE, NONE);
    }

    private static void promise13FirstOfOneTime() {
        // Just D in row 0 and H in row 1 are wide: D's clash with E comes at the time of A's with H.
        WovenRows x = Check.behind("AdBdDdEuFuHu");
        x.member(3, 15, 12);
        x.member(7, 15, 12);
        meetings("of one time, by the place in row 0", x, 9, 5, 7, 18);
        x.member(7, 5, 12);
        meetings("of the last of row 0", x, 9, 3, 34, 14);
        x.member(3, 5, 12);
        x.member(4, 15, 12);
        meetings("of the first of row 1", x, 9, 3, 4, 16);
    }

    private static void promise14Runs() {
        check.due("runs() of nobody", new WovenRows().runs(), 0);
        WovenRows x = Check.behind("Ad");
        check.due("runs() of one", x.runs(), 17);
        x.delay(0, 20);
        x.delay(1, 19);
        check.due("runs() of one with a delay", x.runs(), 37);
        Check.tell(x, "BuCuDu").done();
        check.due("runs() by row 1", x.runs(), 38);
        x.delay(1, 17);
        check.due("runs() by row 0", x.runs(), 37);
        WovenRows y = new WovenRows();
        y.delay(0, 9);
        check.due("runs() of nobody with a delay", y.runs(), 0);
    }

    private static void ordered(String label, WovenRows x, int row, int clashes, int number) {
        String before = Check.stateOf(x);
        check.due("order(" + row + ", 0) " + label, x.order(row, 0), clashes);
        check.due("order(" + row + ", 1) " + label, x.order(row, 1), number);
        check.holds("order " + label + " changes nothing", before.equals(Check.stateOf(x)));
    }

    private static void promise15Order() {
        ordered("of nobody", new WovenRows(), 0, 0, 0);
        ordered("of nobody", new WovenRows(), 1, 0, 0);
        ordered("of one", Check.behind("Ju"), 1, 0, 9);
        ordered("where none clashes: the least number", Check.behind("DdBdCdAuJu"), 0, 0, 123);
        ordered("where none clashes: the least number", Check.behind("DdBdCdJuAu"), 1, 0, 9);
        ordered("of six", Check.behind("FdEdDdCdBdAd"), 0, 0, 12345);
        // Who goes second meets J between 7 and 8, who goes third in 7: just cell 8 is wide.
        WovenRows x = Check.behind("AdBdCdJu");
        x.wide(8, 30);
        x.member(2, 15, 12);
        ordered("with C in the wide cell", x, 0, 0, 201);
        x.member(1, 15, 12);
        ordered("with B or C in the wide cell", x, 0, 1, 102);
        ordered("of the other row", x, 1, 2, 9);
        x = Check.behind("BdCdAu");
        x.member(0, 15, 12);
        x.wide(8, 20);
        ordered("with A in the other row", x, 0, 1, 12);
        // With row 1 three beats later the second meets J in cell 9, not between 8 and 9 or 9 and 10.
        WovenRows y = Check.behind("AdBdCdJu");
        y.wide(9, 30);
        y.delay(1, 3);
        y.member(0, 15, 12);
        ordered("with A in the wide cell 9", y, 0, 0, 102);
        y.delay(1, 4);
        ordered("with A in the wide cell 9 in the last place", y, 0, 0, 120);
        Check.tell(y, "AxJ").done();
        y.delay(1, 0);
        y.delay(0, 2);
        ordered("with A in row 1, which nobody's place helps", y, 1, 3, 0);
        WovenRows z = Check.behind("JdAuBuCu");
        z.wide(9, 30);
        z.member(0, 15, 12);
        ordered("of row 1, with A in the wide cell 9 in the last place", z, 1, 0, 120);
        z.delay(0, 1);
        ordered("of row 1, where the wide cell is of no place", z, 1, 1, 12);
        check.due("order(-1, 0)", x.order(-1, 0), OUTSIDE);
        check.due("order(2, 0)", x.order(2, 0), OUTSIDE);
        check.due("order(0, -1)", x.order(0, -1), OUTSIDE);
        check.due("order(0, 2)", x.order(0, 2), OUTSIDE);
    }

    private static void promise16Start() {
        check.due("start(0) of nobody", new WovenRows().start(0), 0);
        check.due("start(1) of nobody", new WovenRows().start(1), 0);
        WovenRows x = Check.behind("AdJu");
        x.member(0, 15, 12);
        x.delay(0, 3);
        String before = Check.stateOf(x);
        check.due("start(0): they miss each other", x.start(0), 0);
        check.due("start(1): they miss each other", x.start(1), 17);
        x.wide(3, 30);
        check.due("start(1): in the wide cell 3", x.start(1), 10);
        x.wide(8, 30);
        check.due("start(1): in the wide cell 8", x.start(1), 0);
        x.wide(8, 12);
        x.wide(3, 12);
        check.holds("start() changes nothing", before.equals(Check.stateOf(x)));
        x.delay(1, 20);
        check.due("start(0) with row 1 late", x.start(0), 0);
        check.due("start(1) with row 1 late", x.start(1), 0);
        x.delay(1, 5);
        check.due("start(0) where no delay misses", x.start(0), 1);
        check.due("start(1) where no delay misses", x.start(1), 0);
        x.delay(1, 3);
        check.due("start(0) by the last delay", x.start(0), 0);
        check.due("start(1) by the last delay", x.start(1), 20);
        check.due("start(-1)", x.start(-1), OUTSIDE);
        check.due("start(2)", x.start(2), OUTSIDE);
    }

    private static void promise17Door() {
        check.due("door(30, 0) of nobody", new WovenRows().door(30, 0), 0);
        check.due("door(30, 1) of nobody", new WovenRows().door(30, 1), 0);
        WovenRows x = Check.behind("AdJu");
        x.member(0, 15, 12);
        String before = Check.stateOf(x);
        check.due("door(7, 0)", x.door(7, 0), 1);
        check.due("door(7, 1)", x.door(7, 1), 0);
        check.due("door(8, 0)", x.door(8, 0), 0);
        check.due("door(8, 1)", x.door(8, 1), 8);
        check.due("door(30, 1)", x.door(30, 1), 8);
        check.due("door(0, 0)", x.door(0, 0), 1);
        check.due("door(0, 1)", x.door(0, 1), 0);
        check.holds("door() changes nothing", before.equals(Check.stateOf(x)));
        x.delay(0, 1);
        check.due("door(30, 0) between two", x.door(30, 0), 1);
        x.wide(7, 20);
        check.due("door(8, 0) between a wide one and another", x.door(8, 0), 0);
        check.due("door(8, 1) between a wide one and another", x.door(8, 1), 8);
        x.delay(1, 17);
        check.due("door(8, 0) in the last cell", x.door(8, 0), 0);
        check.due("door(8, 1) in the last cell", x.door(8, 1), 16);
        check.due("door(-1, 0)", x.door(-1, 0), OUTSIDE);
        check.due("door(31, 0)", x.door(31, 0), OUTSIDE);
        check.due("door(0, -1)", x.door(0, -1), OUTSIDE);
        check.due("door(0, 2)", x.door(0, 2), OUTSIDE);
    }

    private static void promise18Grate() {
        WovenRows x = Check.behind("AdJu");
        check.due("grate(0) of silent ones", x.grate(0), 0);
        x.member(0, 5, 11);
        check.due("grate(0) of a silent one, as if 12 were a key", x.grate(0), 0);
        for (int key = 0; key < 12; key++) {
            x.member(0, 5, 0);
            x.member(9, 5, key);
            boolean grates = key == 1 || key == 6 || key == 11;
            check.due("grate(0) of 0 and " + key, x.grate(0), grates ? 1 : 0);
            check.due("grate(1) of 0 and " + key, x.grate(1), key == 0 || !grates ? 0 : 1);
            check.due("grate(2) of 0 and " + key, x.grate(2), 0);
        }
        x.member(0, 5, 6);
        x.member(9, 5, 0);
        check.due("grate(0) of 6 and 0", x.grate(0), 1);
        x.delay(0, 17);
        check.due("grate(0) of two who do not meet", x.grate(0), 0);
        // Keys 0, 2, 4, 6, 8, 10 going down: an even shift of J's 1 grates with two, an odd one with one.
        WovenRows y = Check.behind("AdBdCdDdEdFdJu");
        for (int member = 0; member < 6; member++) {
            y.member(member, 5, 2 * member);
        }
        y.member(9, 5, 1);
        String before = Check.stateOf(y);
        check.due("grate(0) of all even keys", y.grate(0), 2);
        check.due("grate(1) of all even keys", y.grate(1), 1);
        check.due("grate(2) of all even keys", y.grate(2), 1);
        check.holds("grate() changes nothing", before.equals(Check.stateOf(y)));
        // 10 grates with 11, 6 with 0; 1, which is 13 less 12, with none of both.
        WovenRows z = Check.behind("AdBdJu");
        z.member(0, 5, 10);
        z.member(1, 5, 6);
        z.member(9, 5, 11);
        check.due("grate(0) before keys begin anew", z.grate(0), 1);
        check.due("grate(1) where keys begin anew", z.grate(1), 2);
        check.due("grate(2) where keys begin anew", z.grate(2), 0);
        z = Check.behind("BdAu");
        z.member(1, 5, 4);
        z.member(0, 5, 5);
        check.due("grate(0) with A in row 1", z.grate(0), 1);
        check.due("grate(-1)", y.grate(-1), OUTSIDE);
        check.due("grate(3)", y.grate(3), OUTSIDE);
    }

    private static void promise19Rule() {
        WovenRows x = new WovenRows();
        check.due("rule(0, 0)", x.rule(0, 0), WovenRows.UNKNOWN);
        check.due("rule(-1, 0)", x.rule(-1, 0), WovenRows.UNKNOWN);
        check.due("rule(0, 10)", x.rule(0, 10), WovenRows.UNKNOWN);
        check.due("rule(10, 0)", x.rule(10, 0), WovenRows.UNKNOWN);
        check.due("no rules", x.told(4), 0);
        for (int i = 1; i <= 10; i++) {
            check.due("rule number " + i, x.rule(i % 2 == 0 ? 0 : 9, i % 2 == 0 ? 9 : 0), i);
        }
        check.due("the 11th rule", x.rule(0, 1), WovenRows.FULL);
        check.due("rule(3, 3) on full", x.rule(3, 3), WovenRows.UNKNOWN);
        check.due("rules", x.told(4), 10);
    }

    private static void promise20Unrule() {
        WovenRows x = Check.behind("AdBd");
        check.due("unrule() of none", x.unrule(), 0);
        x.rule(1, 0);
        x.rule(0, 1);
        check.due("orders(0, 0) by both", x.orders(0, 0), 0);
        check.due("unrule()", x.unrule(), 2);
        check.due("orders(0, 0) by none", x.orders(0, 0), 2);
        check.due("rules", x.told(4), 0);
        check.due("rule() behind it", x.rule(1, 0), 1);
    }

    private static void ruled(String label, WovenRows x, int row, int count, int first) {
        check.due("orders(" + row + ", 0) " + label, x.orders(row, 0), count);
        check.due("orders(" + row + ", 1) " + label, x.orders(row, 1), first);
    }

    private static void promise21Orders() {
        WovenRows x = new WovenRows();
        x.rule(0, 1);
        ruled("of nobody", x, 0, 1, 0);
        ruled("of nobody", x, 1, 1, 0);
        Check.tell(x, "FdEdDdCdBdAdJu").done();
        ruled("A ahead of B", x, 0, 360, 12345);
        ruled("of one", x, 1, 1, 9);
        x.rule(5, 0);
        ruled("F ahead of A, A ahead of B", x, 0, 120, 234501);
        x.rule(9, 5);
        ruled("a rule of one in another row", x, 0, 120, 234501);
        x.rule(5, 0);
        ruled("a rule told twice", x, 0, 120, 234501);
        x.rule(1, 4);
        x.rule(4, 3);
        x.rule(3, 2);
        ruled("all in a line", x, 0, 1, 501432);
        x.rule(2, 5);
        ruled("all in a ring", x, 0, 0, NONE);
        Check.tell(x, "A-AuBxJ").done();
        ruled("A and B now in row 1", x, 1, 1, 1);
        ruled("a ring is broken: E, D, C, F and J, who goes ahead of F", x, 0, 4, 43295);
        check.due("orders(-1, 0)", x.orders(-1, 0), OUTSIDE);
        check.due("orders(2, 0)", x.orders(2, 0), OUTSIDE);
        check.due("orders(0, -1)", x.orders(0, -1), OUTSIDE);
        check.due("orders(0, 2)", x.orders(0, 2), OUTSIDE);
    }
}
