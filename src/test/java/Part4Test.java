/** Promises 22 to 30: who it was, chances, years, images, what is told. */
public final class Part4Test {
    private static final int NONE = WovenRows.NONE;
    private static final int OUTSIDE = WovenRows.OUTSIDE;
    private static final Check check = new Check();

    public static void main(String[] args) {
        promise22Seen();
        promise23Forget();
        promise24Who();
        promise25Look();
        promise26Chance();
        promise26AllTenths();
        promise27Year();
        promise27YearByOneDraw();
        promise27YearLong();
        promise28Image();
        promise29Restore();
        promise30Told();
        check.end();
    }

    private static void promise22Seen() {
        WovenRows x = new WovenRows();
        check.due("seen(-1, 0)", x.seen(-1, 0), WovenRows.UNKNOWN);
        check.due("seen(17, 61)", x.seen(17, 61), WovenRows.UNKNOWN);
        check.due("seen(0, -1)", x.seen(0, -1), OUTSIDE);
        check.due("seen(0, 61)", x.seen(0, 61), OUTSIDE);
        check.due("no sights", x.told(5), 0);
        for (int i = 1; i <= 8; i++) {
            check.due("seen number " + i, x.seen(i % 2 == 0 ? 0 : 16, i % 2 == 0 ? 0 : 60), i);
        }
        check.due("seen the 9th", x.seen(0, 0), WovenRows.FULL);
        check.due("seen(0, 61) on full", x.seen(0, 61), OUTSIDE);
        check.due("seen(17, 0) on full", x.seen(17, 0), WovenRows.UNKNOWN);
        check.due("sights", x.told(5), 8);
    }

    private static void promise23Forget() {
        WovenRows x = Check.behind("Ad");
        check.due("forget() of none", x.forget(), 0);
        x.seen(0, 0);
        x.seen(0, 1);
        check.due("who(0) of two sights", x.who(0), 0);
        check.due("forget()", x.forget(), 2);
        check.due("who(0) of no sights", x.who(0), 10);
        check.due("sights", x.told(5), 0);
    }

    private static void was(String label, WovenRows x, int twos, int members, int lates) {
        check.due("who(0) " + label, x.who(0), twos);
        check.due("who(1) " + label, x.who(1), members);
        check.due("who(2) " + label, x.who(2), lates);
    }

    private static void promise24Who() {
        was("of nobody", new WovenRows(), 0, 0, 0);
        WovenRows x = Check.behind("AdBdJu");
        was("with no sights", x, 30, 515, 1023);
        x.seen(4, 5);
        was("A a beat late or B in time", x, 2, 3, 3);
        x.seen(5, 6);
        was("with another such sight", x, 2, 3, 3);
        x.seen(5, 7);
        was("of none", x, 0, 0, 0);
        x.forget();
        x.seen(16, 9);
        was("J nine beats late", x, 1, 512, 512);
        x.delay(1, 1);
        was("as things are now: J eight beats late", x, 1, 512, 256);
        x.forget();
        x.seen(8, 8);
        was("A in time, and J no more, being later", x, 1, 1, 1);
        x.forget();
        x.seen(0, 10);
        was("B nine beats late", x, 1, 2, 512);
        Check.tell(x, "BxJ").done();
        was("J in B's place", x, 1, 512, 512);
        WovenRows y = Check.behind("Ad");
        y.delay(0, 20);
        y.seen(16, 45);
        was("late by nine at the other end", y, 1, 1, 512);
        y.forget();
        y.seen(16, 46);
        was("later than any", y, 0, 0, 0);
        y.forget();
        y.seen(0, 19);
        was("before the start", y, 0, 0, 0);
        check.due("who(-1)", y.who(-1), OUTSIDE);
        check.due("who(3)", y.who(3), OUTSIDE);
    }

    private static void promise25Look() {
        check.due("look(0) of nobody", new WovenRows().look(0), NONE);
        check.due("look(1) of nobody", new WovenRows().look(1), NONE);
        WovenRows x = Check.behind("Ad");
        check.due("look(0): at beat 8 one cell each, one not yet there", x.look(0), 8);
        check.due("look(1)", x.look(1), 1);
        x.seen(0, 5);
        check.due("look(0) where it is clear", x.look(0), 0);
        check.due("look(1) where it is clear", x.look(1), 1);
        x.seen(0, 4);
        check.due("look(0) where none fits", x.look(0), NONE);
        check.due("look(1) where none fits", x.look(1), NONE);
        WovenRows y = Check.behind("AdBd");
        check.due("look(0) of two in one row: at beat 9 two a cell at most", y.look(0), 9);
        check.due("look(1) of two in one row", y.look(1), 2);
        y.seen(3, 8);
        check.due("look(0) of two who look the same", y.look(0), 0);
        check.due("look(1) of two who look the same", y.look(1), 2);
        WovenRows z = Check.behind("AdJu");
        z.seen(8, 9);
        check.due("look(0) of two who set out apart, both a beat late", z.look(0), 1);
        check.due("look(1) of two who set out apart", z.look(1), 1);
        check.due("look(-1)", z.look(-1), OUTSIDE);
        check.due("look(2)", z.look(2), OUTSIDE);
    }

    private static void chance(WovenRows x, int t, int k, long upper, long lower) {
        check.due("chance(" + t + ", " + k + ", 0)", x.chance(t, k, 0), upper);
        check.due("chance(" + t + ", " + k + ", 1)", x.chance(t, k, 1), lower);
    }

    private static void promise26Chance() {
        WovenRows none = Check.behind("AdJu");
        chance(none, 5, 0, 1, 1);
        chance(none, 5, 1, 0, 1);
        chance(none, 0, 12, 0, 1);
        WovenRows x = Check.behind("AdBdJu");
        x.member(9, 15, 12);
        chance(x, 3, 0, 1, 1);
        chance(x, 3, 1, 91, 100);
        chance(x, 3, 2, 49, 100);
        chance(x, 3, 3, 0, 1);
        chance(x, 5, 2, 1, 4);
        chance(x, 0, 2, 1, 1);
        chance(x, 0, 3, 0, 1);
        chance(x, 10, 0, 1, 1);
        chance(x, 10, 1, 0, 1);
        WovenRows y = Check.behind("AdBdCdDdEuFuGu");
        for (int member = 4; member < 7; member++) {
            y.member(member, 15, 12);
        }
        chance(y, 9, 12, 1, 1000000000000L);
        chance(y, 9, 1, 1000000000000L - 282429536481L, 1000000000000L);
        chance(y, 5, 6, 1255, 2048);
        chance(y, 5, 12, 1, 4096);
        chance(y, 0, 12, 1, 1);
        Check.tell(y, "Hu").done();
        check.due("clashes", y.meets(1), 12);
        y.member(7, 15, 12);
        check.due("chance() of 16 clashes", y.chance(5, 0, 0), WovenRows.LOST + WovenRows.STATE);
        check.due("chance(11, 0, 0) of 16 clashes", y.chance(11, 0, 0), WovenRows.LOST + OUTSIDE);
        check.due("chance(-1, 0, 0)", x.chance(-1, 0, 0), WovenRows.LOST + OUTSIDE);
        check.due("chance(11, 0, 0)", x.chance(11, 0, 0), WovenRows.LOST + OUTSIDE);
        check.due("chance(0, -1, 0)", x.chance(0, -1, 0), WovenRows.LOST + OUTSIDE);
        check.due("chance(0, 13, 0)", x.chance(0, 13, 0), WovenRows.LOST + OUTSIDE);
        check.due("chance(0, 0, -1)", x.chance(0, 0, -1), WovenRows.LOST + OUTSIDE);
        check.due("chance(0, 0, 2)", x.chance(0, 0, 2), WovenRows.LOST + OUTSIDE);
    }

    private static void promise26AllTenths() {
        WovenRows x = Check.behind("AdJu");
        x.member(9, 15, 12);
        long[] upper = {1, 9, 4, 7, 3, 1, 2, 3, 1, 1, 0};
        long[] lower = {1, 10, 5, 10, 5, 2, 5, 10, 5, 10, 1};
        for (int t = 0; t <= 10; t++) {
            chance(x, t, 1, upper[t], lower[t]);
        }
    }

    private static void promise27Year() {
        WovenRows x = new WovenRows();
        // Seed 0: x is 74: E, 7 of 8: a bell. Then 5624: E, 562 by 8 leaves 2: E joins row 1.
        check.due("year(0, 1, 0)", x.year(0, 1, 0), 0);
        check.due("year(0, 1, 2)", x.year(0, 1, 2), 1);
        check.due("year(0, 2, 0)", x.year(0, 2, 0), 1);
        check.due("year(0, 2, 1)", x.year(0, 2, 1), 0);
        check.due("year(0, 2, 2)", x.year(0, 2, 2), 1);
        WovenRows y = Check.behind("BdDdEd!!");
        y.member(1, 15, 12);
        // From all as it is: E is in a row already, so it can not join row 1.
        check.due("year(0, 1, 2) from two bells", y.year(0, 1, 2), 3);
        check.due("year(0, 2, 0) with E in a row", y.year(0, 2, 0), 3);
        Check.tell(y, "E-").done();
        String before = Check.stateOf(y);
        check.due("year(0, 2, 0) with E at home", y.year(0, 2, 0), 3);
        check.due("year(0, 2, 1): E and B clash", y.year(0, 2, 1), 1);
        check.holds("nothing is done in fact", before.equals(Check.stateOf(y)));
        check.due("year(-1, 1, 0)", y.year(-1, 1, 0), OUTSIDE);
        check.due("year(10000, 1, 0)", y.year(10000, 1, 0), OUTSIDE);
        check.due("year(0, 0, 0)", y.year(0, 0, 0), OUTSIDE);
        check.due("year(0, 100, 0)", y.year(0, 100, 0), OUTSIDE);
        check.due("year(0, 1, -1)", y.year(0, 1, -1), OUTSIDE);
        check.due("year(0, 1, 3)", y.year(0, 1, 3), OUTSIDE);
        Check.tell(y, "Ad?");
        check.due("year() with a fault on the pad", y.year(0, 2, 0), 3);
    }

    private static void promise27YearByOneDraw() {
        // Seed 873: 65549 less 65537 is 12: C joins row 0.
        WovenRows x = Check.behind("Ju");
        x.member(2, 15, 12);
        check.due("year(873, 1, 0)", x.year(873, 1, 0), 2);
        check.due("year(873, 1, 1): C clashes", x.year(873, 1, 1), 1);
        check.due("year(873, 1, 2)", x.year(873, 1, 2), 0);
        // Seed 5: 449, by 10 44 leaves 4: J goes home.
        check.due("year(5, 1, 0): J goes home", x.year(5, 1, 0), 0);
        // Seeds 1, 17, 801: 149, 1349, 60149: J changes places with B, G, B. Who is wide clashes with J alone then.
        int[] seed = {1, 17, 801};
        int[] other = {1, 6, 1};
        for (int i = 0; i < seed.length; i++) {
            WovenRows y = Check.behind("JdAuBuCuDuGuHu");
            y.member(9, 15, 12);
            check.due("clashes before", y.meets(1), 6);
            check.due("year(" + seed[i] + ", 1, 1): J changes places", y.year(seed[i], 1, 1), 1);
            y.member(9, 5, 12);
            y.member(other[i], 15, 12);
            check.due("clashes before", y.meets(1), 1);
            check.due("year(" + seed[i] + ", 1, 1): with the wide one", y.year(seed[i], 1, 1), 6);
        }
    }

    private static void promise27YearLong() {
        WovenRows x = Check.behind("!!!!!!!!!!!!!!!!!!!!!!!!!!!!!!!!!!!!!!!!!!!!!!!!!!!!!!!!!!!!");
        Check.tell(x, "!!!!!!!!!!!!!!!!!!!!!!!!!!!!!!!!!!!!!!!").done();
        check.due("a year's bell is no more than 99", x.year(0, 1, 2), 99);
        for (int seed = 0; seed < 10000; seed += 1111) {
            int members = new WovenRows().year(seed, 99, 0);
            check.holds("members in rows of seed " + seed, members >= 0 && members <= 10);
            check.due("bells of seed " + seed, x.year(seed, 99, 2), 99);
        }
    }

    private static void promise28Image() {
        WovenRows x = Check.behind("AdBu");
        check.due("image(-1)", x.image(-1), OUTSIDE);
        check.due("image(2)", x.image(2), OUTSIDE);
        check.due("restore(0) still", x.restore(0), WovenRows.STATE);
        check.due("image(0)", x.image(0), 1);
        check.due("restore(1) still", x.restore(1), WovenRows.STATE);
        check.due("image(1)", x.image(1), 1);
        Check.tell(x, "CdB-!").done();
        check.due("image(1) again", x.image(1), 1);
        x.restore(0);
        check.due("the first image", x.told(1), 1);
        check.due("the first image", x.told(2), 1);
        x.restore(1);
        check.due("the second image, kept anew", x.told(1), 2);
        check.due("the second image, kept anew", x.told(2), 0);
        check.due("the second image, kept anew", x.told(3), 1);
        x.restore(0);
        check.due("the first image again", x.told(3), 0);
    }

    private static void promise29Restore() {
        WovenRows x = Check.behind("AdBdCu!");
        x.member(3, 9, 4);
        x.wide(7, 21);
        x.delay(0, 4);
        x.delay(1, 6);
        x.rule(1, 0);
        x.seen(5, 9);
        String before = Check.stateOf(x);
        int firstByRules = x.orders(0, 1);
        int who = x.who(1);
        check.due("image(1)", x.image(1), 1);
        Check.tell(x, "AxCB-!!").done();
        x.member(3, 1, 1);
        x.wide(7, 1);
        x.delay(0, 0);
        x.delay(1, 0);
        x.unrule();
        x.rule(0, 1);
        x.rule(4, 5);
        x.forget();
        x.seen(6, 6);
        check.due("restore(-1)", x.restore(-1), OUTSIDE);
        check.due("restore(2)", x.restore(2), OUTSIDE);
        check.due("restore(0), not kept", x.restore(0), WovenRows.STATE);
        check.due("restore(1)", x.restore(1), 1);
        check.holds("it is as it was", before.equals(Check.stateOf(x)));
        check.due("the rules too", x.orders(0, 1), firstByRules);
        check.due("the sights too", x.who(1), who);
        Check.tell(x, "Dd");
        check.due("restore(1) again", x.restore(1), 1);
        check.due("the pad is not of it", x.told(0), 2);
        check.due("the pad is done", x.done(), 1);
        check.due("an image is not changed by what is done", x.restore(1), 1);
        check.due("D is at home", x.of(3, 0), 2);
    }

    private static void promise30Told() {
        WovenRows x = Check.behind("AdBdCu!!!");
        Check.tell(x, "Ad?!");
        x.rule(0, 1);
        x.rule(2, 1);
        x.seen(0, 0);
        x.delay(0, 13);
        x.delay(1, 14);
        int[] what = {0, 1, 2, 3, 4, 5, 6, 7, 80, 81, 82, 90, 91, 85, 95};
        int[] due = {4, 2, 1, 3, 2, 1, 13, 14, 0, 1, NONE, 2, NONE, NONE, NONE};
        for (int i = 0; i < what.length; i++) {
            check.due("told(" + what[i] + ")", x.told(what[i]), due[i]);
        }
        for (int cell = 0; cell <= 16; cell++) {
            x.wide(cell, 3 + cell);
            check.due("told(" + (20 + cell) + ")", x.told(20 + cell), 3 + cell);
        }
        for (int member = 0; member < 10; member++) {
            x.member(member, 2 + member, 11 - member);
            check.due("told(" + (40 + member) + ")", x.told(40 + member), 2 + member);
            check.due("told(" + (60 + member) + ")", x.told(60 + member), 11 - member);
        }
        int[] outside = {-1, 8, 19, 37, 39, 50, 59, 70, 79, 86, 89, 96, 100,
            Integer.MIN_VALUE, Integer.MAX_VALUE};
        for (int i = 0; i < outside.length; i++) {
            check.due("told(" + outside[i] + ")", x.told(outside[i]), OUTSIDE);
        }
    }
}
