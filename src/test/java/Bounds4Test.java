/**
 * The boundary cases of part 4 (who it was, chances, years, images, what is
 * told), a test for each sentence of the document that names one.
 */
public final class Bounds4Test {
    private static final int NONE = WovenRows.NONE;
    private static final int UNKNOWN = WovenRows.UNKNOWN;
    private static final int OUTSIDE = WovenRows.OUTSIDE;
    private static final long LOST = WovenRows.LOST;
    private static final int[] FAR = {Integer.MIN_VALUE, -1000000, 1000000, Integer.MAX_VALUE};
    private static final String THIRTY_BELLS = "!!!!!!!!!!!!!!!!!!!!!!!!!!!!!!";
    private static final Check check = new Check();

    public static void main(String[] args) {
        eightSightsAtMost();
        seenInACellAtABeat();
        sightsGo();
        whoOfNobodyOfAllOfNone();
        lateByZeroToNine();
        whoAsThingsAreNow();
        whoOutside();
        lookWhereNoneFits();
        lookAtTheLeastBeat();
        lookForManyOfBothRows();
        lookNotInTheStreet();
        lookOutside();
        chanceOfNoClash();
        chanceByZeroToTenTenths();
        chanceOfZeroToTwelve();
        chanceOfMoreThanTwelveClashes();
        chanceOutside();
        yearOfOneActOfEveryKind();
        yearActsThatCanNotBe();
        yearLeftOver();
        yearOfNinetyNine();
        yearOutside();
        imageZeroAndOne();
        restoreWhatWasNotKept();
        allButThePadIsKept();
        toldOfEveryNumber();
        check.end();
    }

    // "SIGHTS, 8 at most"; "A SIGHT more: how many ... FULL".
    private static void eightSightsAtMost() {
        WovenRows x = Check.behind("Ad");
        for (int i = 1; i <= 8; i++) {
            check.due("sight " + i, x.seen(i, 3 + i), i);
        }
        check.due("the ninth", x.seen(16, 1), WovenRows.FULL);
        check.due("the ninth, as one told already", x.seen(1, 4), WovenRows.FULL);
        check.due("sights", x.told(5), 8);
        check.due("it is no sight", x.who(0), 1);
        check.due("no such cell is ahead of FULL", x.seen(17, 1), UNKNOWN);
        check.due("no such beat is ahead of FULL", x.seen(16, 61), OUTSIDE);
    }

    // "was in a CELL at a beat (0 to 60)"; "UNKNOWN: the CELL; OUTSIDE".
    private static void seenInACellAtABeat() {
        WovenRows x = new WovenRows();
        int many = 0;
        for (int cell = 0; cell <= 16; cell++) {
            many = many == 8 ? 8 - x.forget() : many;
            check.due("seen(" + cell + ", 0)", x.seen(cell, 0), ++many);
        }
        for (int beat = 0; beat <= 60; beat++) {
            many = many == 8 ? 8 - x.forget() : many;
            check.due("seen(0, " + beat + ")", x.seen(0, beat), ++many);
        }
        x.forget();
        check.due("seen(-1, 0)", x.seen(-1, 0), UNKNOWN);
        check.due("seen(17, 0)", x.seen(17, 0), UNKNOWN);
        check.due("seen(17, 61)", x.seen(17, 61), UNKNOWN);
        check.due("seen(16, -1)", x.seen(16, -1), OUTSIDE);
        check.due("seen(16, 61)", x.seen(16, 61), OUTSIDE);
        for (int far : FAR) {
            check.due("seen(" + far + ", 0)", x.seen(far, 0), UNKNOWN);
            check.due("seen(0, " + far + ")", x.seen(0, far), OUTSIDE);
        }
        check.due("sights", x.told(5), 0);
    }

    // "SIGHTS go: how many there were."
    private static void sightsGo() {
        WovenRows x = Check.behind("Ad");
        check.due("none", x.forget(), 0);
        for (int i = 0; i < 8; i++) {
            x.seen(16, 0);
        }
        check.due("none fits", x.who(0), 0);
        check.due("eight", x.forget(), 8);
        check.due("none again", x.forget(), 0);
        check.due("all fit", x.who(0), 10);
        check.due("a first sight again", x.seen(0, 0), 1);
        check.due("it counts alone", x.who(0), 1);
    }

    private static void was(String label, WovenRows x, int twos, int members, int lates) {
        check.due("who(0) " + label, x.who(0), twos);
        check.due("who(1) " + label, x.who(1), members);
        check.due("who(2) " + label, x.who(2), lates);
    }

    // "twos of MEMBER and how late by which all SIGHTS are so"; "Sets are bits."
    private static void whoOfNobodyOfAllOfNone() {
        was("of nobody", new WovenRows(), 0, 0, 0);
        WovenRows x = Check.behind("AdBdCdDdEdFdGuHuIuJu");
        was("of all, without sights", x, 100, 1023, 1023);
        x.seen(0, 60);
        was("of none", x, 0, 0, 0);
        WovenRows y = Check.behind("Ad");
        was("of the first member", y, 10, 1, 1023);
        Check.tell(y, "A-Ju").done();
        was("of the last member", y, 10, 512, 1023);
        Check.tell(y, "J-").done();
        y.seen(3, 3);
        was("of nobody, with a sight", y, 0, 0, 0);
    }

    // "both ROWS being as many beats later (0 to 9) than told".
    private static void lateByZeroToNine() {
        for (int row = 0; row <= 1; row++) {
            WovenRows x = Check.behind(row == 0 ? "Jd" : "Ju");
            x.delay(row, 3);
            for (int beat = 0; beat <= 15; beat++) {
                x.forget();
                x.seen(row == 0 ? 0 : 16, beat);
                boolean may = beat >= 3 && beat <= 12;
                was("at beat " + beat, x, may ? 1 : 0, may ? 512 : 0, may ? 1 << beat - 3 : 0);
            }
            x.forget();
            x.seen(row == 0 ? 16 : 0, 28);
            was("at the other end as late as can be", x, 1, 512, 512);
            x.seen(row == 0 ? 15 : 1, 27);
            was("and a beat ahead", x, 1, 512, 512);
            x.seen(row == 0 ? 16 : 0, 27);
            was("in two cells at one beat", x, 0, 0, 0);
        }
    }

    // "a MEMBER of a ROW (as they are now)".
    private static void whoAsThingsAreNow() {
        WovenRows x = Check.behind("AdBd");
        x.seen(0, 10);
        was("B nine beats late", x, 1, 2, 512);
        Check.tell(x, "A-");
        was("acts that are not done", x, 1, 2, 512);
        x.done();
        was("B a place ahead", x, 0, 0, 0);
        x.delay(0, 10);
        was("B with a delay", x, 1, 2, 1);
        x.delay(0, 11);
        was("B too late", x, 0, 0, 0);
    }

    // "who: OUTSIDE."
    private static void whoOutside() {
        WovenRows x = Check.behind("Ad");
        check.due("who(-1)", x.who(-1), OUTSIDE);
        check.due("who(3)", x.who(3), OUTSIDE);
        for (int far : FAR) {
            check.due("who(" + far + ")", x.who(far), OUTSIDE);
        }
    }

    // "NONE: none fits."
    private static void lookWhereNoneFits() {
        WovenRows x = new WovenRows();
        check.due("look(0) of nobody", x.look(0), NONE);
        check.due("look(1) of nobody", x.look(1), NONE);
        Check.tell(x, "Ad").done();
        check.due("look(1) of one", x.look(1), 1);
        x.seen(16, 0);
        check.due("look(0) where none fits", x.look(0), NONE);
        check.due("look(1) where none fits", x.look(1), NONE);
        x.forget();
        check.due("look(0) of one again", x.look(0), 8);
    }

    // "the beat (0 to 60) at which to look for it next ... the least; how many."
    private static void lookAtTheLeastBeat() {
        WovenRows x = Check.behind("Ad");
        x.seen(0, 0);
        check.due("one is left at any beat: the least", x.look(0), 0);
        check.due("how many", x.look(1), 1);
        WovenRows y = Check.behind("Ad");
        y.delay(0, 20);
        // Late by 0 to 9: at beat 28 nine are in a cell each and one has not set out.
        check.due("with the greatest delay", y.look(0), 28);
        check.due("how many", y.look(1), 1);
        WovenRows z = Check.behind("BdCdDdEdFdAd");
        z.delay(0, 20);
        // All six places: 60 twos, by when they set out 1, 2 .. 6, 6, 6, 6, 6 .. 2, 1.
        check.due("in the last place, as late as can be", z.look(1), 6);
        // At beat 31 those of 32, 33, 34 have not set out: 3, 2 and 1.
        check.due("no more than six not in the street", z.look(0), 31);
    }

    // "LOOK" where more than a few are left: of each row by the way it goes.
    private static void lookForManyOfBothRows() {
        WovenRows x = Check.behind("AdHuIuJu");
        x.delay(0, 3);
        // At beat 10 A is in 0 to 7 or has not set out (2), H in 6 to 15, I in 7 to 16, J in 8 to 16 or not (1).
        check.due("look(0) of forty", x.look(0), 10);
        check.due("look(1) of forty", x.look(1), 3);
        check.due("who(0) of forty", x.who(0), 40);
    }

    // "wherever it is (in which CELL, or not in the STREET)": not yet in it and no more in it is one.
    private static void lookNotInTheStreet() {
        WovenRows x = Check.behind("AdJu");
        x.delay(1, 20);
        check.due("look(0): A is all in the street, J is not", x.look(0), 9);
        check.due("look(1): ten of J are not in the street", x.look(1), 10);
        // One that is in the same cell for sure, but out of the street apart.
        WovenRows y = Check.behind("AdJu");
        y.seen(8, 8);
        check.due("both fit", y.who(0), 2);
        check.due("look(0): in cell 0 and in cell 16 at beat 0", y.look(0), 0);
        check.due("look(1)", y.look(1), 1);
        y.delay(0, 1);
        y.delay(1, 1);
        check.due("none fits, a beat later", y.look(0), NONE);
        y.forget();
        y.seen(8, 9);
        check.due("at beat 0 both are out of the street", y.look(0), 1);
        check.due("look(1)", y.look(1), 1);
    }

    // "look: OUTSIDE", which is ahead of NONE.
    private static void lookOutside() {
        WovenRows x = new WovenRows();
        check.due("look(-1) of nobody", x.look(-1), OUTSIDE);
        check.due("look(2) of nobody", x.look(2), OUTSIDE);
        Check.tell(x, "Ad").done();
        check.due("look(-1)", x.look(-1), OUTSIDE);
        check.due("look(2)", x.look(2), OUTSIDE);
        for (int far : FAR) {
            check.due("look(" + far + ")", x.look(far), OUTSIDE);
        }
    }

    private static void chance(WovenRows x, int t, int k, long upper, long lower) {
        check.due("chance(" + t + ", " + k + ", 0)", x.chance(t, k, 0), upper);
        check.due("chance(" + t + ", " + k + ", 1)", x.chance(t, k, 1), lower);
    }

    // "that k twos (0 to 12) at least do not": of no twos none do not.
    private static void chanceOfNoClash() {
        for (String days : new String[] {"", "Ad", "Ju", "AdJu"}) {
            WovenRows x = Check.behind(days);
            for (int t = 0; t <= 10; t += 5) {
                chance(x, t, 0, 1, 1);
                chance(x, t, 1, 0, 1);
                chance(x, t, 12, 0, 1);
            }
        }
    }

    private static WovenRows twelveClashes() {
        WovenRows x = Check.behind("AdBdCdDdEuFuGu");
        for (int member = 0; member < 10; member++) {
            x.member(member, 15, 12);
        }
        check.due("clashes", x.meets(1), 12);
        return x;
    }

    // "with t tenths (0 to 10), each by itself"; "Fractions are told in lowest terms".
    private static void chanceByZeroToTenTenths() {
        WovenRows x = Check.behind("AdJu");
        x.member(0, 15, 12);
        long[] upper = {1, 9, 4, 7, 3, 1, 2, 3, 1, 1, 0};
        long[] lower = {1, 10, 5, 10, 5, 2, 5, 10, 5, 10, 1};
        for (int t = 0; t <= 10; t++) {
            chance(x, t, 0, 1, 1);
            chance(x, t, 1, upper[t], lower[t]);
            chance(x, t, 2, 0, 1);
        }
        WovenRows y = twelveClashes();
        chance(y, 0, 12, 1, 1);
        chance(y, 0, 0, 1, 1);
        chance(y, 10, 0, 1, 1);
        chance(y, 10, 1, 0, 1);
    }

    // "k twos (0 to 12)": as many as there are at the most.
    private static void chanceOfZeroToTwelve() {
        WovenRows x = twelveClashes();
        // Of 4096: 4096, 4095, 4083, 4017, 3797, 3302, 2510, 1586, 794, 299, 79, 13, 1.
        long[] upper = {1, 4095, 4083, 4017, 3797, 1651, 1255, 793, 397, 299, 79, 13, 1};
        long[] lower = {1, 4096, 4096, 4096, 4096, 2048, 2048, 2048, 2048, 4096, 4096, 4096, 4096};
        for (int k = 0; k <= 12; k++) {
            chance(x, 5, k, upper[k], lower[k]);
        }
        chance(x, 9, 12, 1, 1000000000000L);
        chance(x, 1, 12, 282429536481L, 1000000000000L);
        chance(x, 1, 1, 999999999999L, 1000000000000L);
        chance(x, 9, 1, 717570463519L, 1000000000000L);
    }

    // "STATE: there are more than 12 CLASHES"; "refused with LOST and the refusal".
    private static void chanceOfMoreThanTwelveClashes() {
        WovenRows x = Check.behind("AdBdCdDdEuFuGuHu");
        for (int member = 0; member < 10; member++) {
            x.member(member, 15, 12);
        }
        x.delay(0, 15);
        check.due("clashes", x.meets(1), 13);
        check.due("chance(5, 0, 0) of 13", x.chance(5, 0, 0), LOST + WovenRows.STATE);
        check.due("chance(10, 12, 1) of 13", x.chance(10, 12, 1), LOST + WovenRows.STATE);
        check.due("chance(11, 0, 0) of 13", x.chance(11, 0, 0), LOST + OUTSIDE);
        check.due("chance(0, 13, 0) of 13", x.chance(0, 13, 0), LOST + OUTSIDE);
        check.due("chance(0, 0, 2) of 13", x.chance(0, 0, 2), LOST + OUTSIDE);
        x.wide(2, 30);
        check.due("clashes", x.meets(1), 12);
        chance(x, 5, 12, 1, 4096);
        check.due("lost is told as a number of its own", LOST + WovenRows.STATE, -1000000000000000003L);
    }

    // "chance: OUTSIDE".
    private static void chanceOutside() {
        WovenRows x = Check.behind("AdJu");
        long refused = -1000000000000000002L;
        int[][] outside = {{-1, 0, 0}, {11, 0, 0}, {0, -1, 0}, {0, 13, 0}, {0, 0, -1}, {0, 0, 2}, {11, 13, 2}};
        for (int[] each : outside) {
            check.due("chance(" + each[0] + ", " + each[1] + ", " + each[2] + ")",
                x.chance(each[0], each[1], each[2]), refused);
        }
        for (int far : FAR) {
            check.due("chance(" + far + ", 0, 0)", x.chance(far, 0, 0), refused);
            check.due("chance(0, " + far + ", 0)", x.chance(0, far, 0), refused);
            check.due("chance(0, 0, " + far + ")", x.chance(0, 0, far), refused);
        }
    }

    private static void year(WovenRows x, int seed, int m, int members, int clashes, int bells) {
        check.due("year(" + seed + ", " + m + ", 0)", x.year(seed, m, 0), members);
        check.due("year(" + seed + ", " + m + ", 1)", x.year(seed, m, 1), clashes);
        check.due("year(" + seed + ", " + m + ", 2)", x.year(seed, m, 2), bells);
    }

    // "0, 1 it joins ROW 0, 2, 3 ROW 1, 4, 5 it goes HOME, 6 it changes places ..., 7 a bell".
    private static void yearOfOneActOfEveryKind() {
        // B is wide in row 0, so who joins row 1 clashes with it: by the seed's first x
        // 1049 and 899 J joins row 0, by 749 and 599 row 1; by 400, 250, 100, 1150 A does.
        WovenRows x = Check.behind("Bd");
        x.member(1, 15, 12);
        int[] down = {13, 11, 1752, 1750};
        int[] up = {9, 7, 1748, 1762};
        for (int i = 0; i < 4; i++) {
            year(x, down[i], 1, 2, 0, 0);
            year(x, up[i], 1, 2, 1, 0);
        }
        // By 449 and 299 J goes home, by 1000 and 850 A does.
        WovenRows y = Check.behind("AdJu");
        y.member(0, 15, 12);
        for (int seed : new int[] {5, 3, 1760, 1758}) {
            year(y, seed, 1, 1, 0, 0);
        }
        // By 149 J changes places with B, by 1199 and 550 there is a bell.
        WovenRows z = Check.behind("JdBuCu");
        z.member(9, 15, 12);
        year(z, 1, 1, 3, 1, 0);
        year(z, 15, 1, 3, 2, 1);
        year(z, 1754, 1, 3, 2, 1);
    }

    // "each if that can be"; the others are left out, and counted among the m.
    private static void yearActsThatCanNotBe() {
        WovenRows x = new WovenRows();
        // Nobody can go home (449, 299) or change places (149; 2389: J with J).
        for (int seed : new int[] {5, 3, 1, 4400}) {
            year(x, seed, 1, 0, 0, 0);
        }
        WovenRows y = Check.behind("Jd");
        year(y, 4400, 1, 1, 0, 0);
        year(y, 13, 1, 1, 0, 0);
        year(y, 9, 1, 1, 0, 0);
        WovenRows full = Check.behind("AdBdCdDdEdFdGu");
        year(full, 13, 1, 7, 0, 0);
        year(full, 9, 1, 8, 0, 0);
        full = Check.behind("AuBuCuDuEuFuGd");
        year(full, 13, 1, 8, 0, 0);
        year(full, 9, 1, 7, 0, 0);
        // From seed 5: x is 449 (J home: can not be), then 33749: J, 3374 by 8 leaves 6, J with 421 by 10, 1: can not be.
        year(x, 5, 2, 0, 0, 0);
    }

    // "x becomes (75 x and 74) left over by 65537".
    private static void yearLeftOver() {
        WovenRows x = Check.behind("Bu");
        x.member(2, 15, 12);
        // 872: 65474, E, 6547 leaves 3: it joins row 1. 873: 65549 leaves 12, C, 1: it joins row 0.
        year(x, 872, 1, 2, 0, 0);
        year(x, 873, 1, 2, 1, 0);
        // 9999: 749999 leaves 29092: C, 2909 leaves 5: it goes home. 0: 74: a bell.
        WovenRows y = Check.behind("CdBu");
        y.member(2, 15, 12);
        year(y, 9999, 1, 1, 0, 0);
        year(y, 0, 1, 2, 1, 1);
        // 9999 again: 2181974 leaves 19253: D, 1925 leaves 5: D is at home.
        year(y, 9999, 2, 1, 0, 0);
        check.due("nothing is done in fact", y.told(1) + y.told(2), 2);
        check.due("nor a bell", y.told(3), 0);
    }

    // "of m ACTS (1 to 99)"; "BELLS" of a year are 99 at most.
    private static void yearOfNinetyNine() {
        WovenRows x = new WovenRows();
        check.due("year(77, 99, 0)", x.year(77, 99, 0), 8);
        check.due("year(77, 99, 1)", x.year(77, 99, 1), 0);
        check.due("year(77, 99, 2)", x.year(77, 99, 2), 7);
        Check.tell(x, THIRTY_BELLS + THIRTY_BELLS).done();
        Check.tell(x, THIRTY_BELLS + "!!!!!!!!").done();
        check.due("98 bells, and one", x.year(0, 1, 2), 99);
        Check.tell(x, "!").done();
        check.due("99 bells, and none more", x.year(0, 1, 2), 99);
        check.due("nor in 99 acts", x.year(77, 99, 2), 99);
        check.due("who joins does so all the same", x.year(77, 99, 0), 8);
    }

    // "by a seed (0 to 9999) of m ACTS (1 to 99)"; "year: OUTSIDE".
    private static void yearOutside() {
        WovenRows x = Check.behind("AdJu");
        int[][] outside = {{-1, 1, 0}, {10000, 1, 0}, {0, 0, 0}, {0, 100, 0}, {0, -1, 0}, {0, 1, -1}, {0, 1, 3}};
        for (int[] each : outside) {
            check.due("year(" + each[0] + ", " + each[1] + ", " + each[2] + ")",
                x.year(each[0], each[1], each[2]), OUTSIDE);
        }
        for (int far : FAR) {
            check.due("year(" + far + ", 1, 0)", x.year(far, 1, 0), OUTSIDE);
            check.due("year(0, " + far + ", 0)", x.year(0, far, 0), OUTSIDE);
            check.due("year(0, 1, " + far + ")", x.year(0, 1, far), OUTSIDE);
        }
    }

    // "is kept in an IMAGE (0, 1): 1. OUTSIDE."
    private static void imageZeroAndOne() {
        WovenRows x = new WovenRows();
        check.due("image(-1)", x.image(-1), OUTSIDE);
        check.due("image(2)", x.image(2), OUTSIDE);
        for (int far : FAR) {
            check.due("image(" + far + ")", x.image(far), OUTSIDE);
            check.due("restore(" + far + ")", x.restore(far), OUTSIDE);
        }
        check.due("none is kept by these", x.restore(0), WovenRows.STATE);
        check.due("none is kept by these", x.restore(1), WovenRows.STATE);
        check.due("image(0)", x.image(0), 1);
        check.due("image(0) anew", x.image(0), 1);
        check.due("image(1)", x.image(1), 1);
        check.due("restore(-1)", x.restore(-1), OUTSIDE);
        check.due("restore(2)", x.restore(2), OUTSIDE);
    }

    // "It is as it was when it was kept: 1. ... STATE: it was not."
    private static void restoreWhatWasNotKept() {
        for (int n = 0; n <= 1; n++) {
            WovenRows x = Check.behind("AdBu!");
            x.wide(3, 4);
            check.due("restore(" + n + ") of a new object's", x.restore(n), WovenRows.STATE);
            check.due("it changes nothing", x.told(23), 4);
            check.due("image(" + n + ")", x.image(n), 1);
            check.due("the other one was not kept", x.restore(1 - n), WovenRows.STATE);
            x.wide(3, 5);
            check.due("restore(" + n + ")", x.restore(n), 1);
            check.due("as it was", x.told(23), 4);
            x.wide(3, 6);
            check.due("restore(" + n + ") a second time", x.restore(n), 1);
            check.due("as it was", x.told(23), 4);
            check.due("the other one was still not kept", x.restore(1 - n), WovenRows.STATE);
        }
    }

    // "All but the PAD is kept": of a new object, at its limits, and what is restored goes on apart from the image.
    private static void allButThePadIsKept() {
        WovenRows x = new WovenRows();
        String anew = Check.stateOf(x);
        x.image(0);
        Check.tell(x, "AdBdCdDdEdFdGuHuIuJu" + THIRTY_BELLS).done();
        for (int i = 0; i < 10; i++) {
            x.rule(1, 0);
            x.seen(i, i);
        }
        x.image(1);
        x.restore(0);
        check.holds("a new object again", anew.equals(Check.stateOf(x)));
        check.due("no rules", x.orders(0, 0), 1);
        check.due("a first rule", x.rule(0, 1), 1);
        check.due("a first sight", x.seen(0, 0), 1);
        Check.tell(x, "AdBd").done();
        x.restore(1);
        check.due("ten rules", x.told(4), 10);
        check.due("eight sights", x.told(5), 8);
        check.due("no room for a rule", x.rule(0, 1), WovenRows.FULL);
        check.due("no room for a sight", x.seen(0, 0), WovenRows.FULL);
        check.due("the rules are those that were", x.orders(0, 0), 360);
        check.due("the sights are those that were", x.who(1), 1);
        check.due("bells", x.told(3), 30);
        Check.tell(x, "A-Ax");
        x.restore(0);
        check.due("the pad stays", x.told(0), 4);
        check.due("and goes on", x.say('B'), 5);
        check.due("nobody is in a row", x.judge(0), 0);
        x.restore(1);
        check.due("A is in a row", x.judge(0), 1);
    }

    // "0 signs, 1 how many are in ROW 0, ... 80 and 10 times a ROW and a place (0 to 5): who (NONE). OUTSIDE."
    private static void toldOfEveryNumber() {
        WovenRows x = Check.behind("AdBdCdDdEdFdGuHuIuJu");
        for (int what = -30; what <= 200; what++) {
            boolean row = what >= 80 && what <= 85 || what >= 90 && what <= 95;
            boolean street = what >= 20 && what <= 36;
            boolean member = what >= 40 && what <= 49 || what >= 60 && what <= 69;
            boolean may = what >= 0 && what <= 7 || street || member || row;
            check.due("told(" + what + ") is OUTSIDE", x.told(what) == OUTSIDE ? 1 : 0, may ? 0 : 1);
        }
        for (int far : FAR) {
            check.due("told(" + far + ")", x.told(far), OUTSIDE);
        }
        int[] full = {0, 6, 4, 0, 0, 0, 0, 0};
        for (int what = 0; what <= 7; what++) {
            check.due("told(" + what + ")", x.told(what), full[what]);
        }
        for (int i = 0; i <= 5; i++) {
            check.due("told(" + (80 + i) + ")", x.told(80 + i), i);
            check.due("told(" + (90 + i) + ")", x.told(90 + i), i < 4 ? 6 + i : NONE);
        }
    }
}
