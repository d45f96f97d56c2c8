/**
 * The boundary cases of part 2 (days judged, done, and what is behind them), a
 * test for each sentence of the document that names one.
 */
public final class Bounds2Test {
    private static final int NONE = WovenRows.NONE;
    private static final int UNKNOWN = WovenRows.UNKNOWN;
    private static final int OUTSIDE = WovenRows.OUTSIDE;
    private static final int NO = WovenRows.NO;
    private static final int[] FAR = {Integer.MIN_VALUE, -1000000, 1000000, Integer.MAX_VALUE};
    private static final String TWENTY_BELLS = "!!!!!!!!!!!!!!!!!!!!";
    private static final Check check = new Check();

    public static void main(String[] args) {
        rowOfSixAtMost();
        joinsInTheLastPlace();
        whoWasBehindIsAPlaceAhead();
        bothChangePlaces();
        joinsOrGoesHomeTwice();
        changesPlacesWithOneAtHome();
        changesPlacesWithItself();
        leastOfTheReasons();
        ninetyNineBells();
        firstActThatCanNotBe();
        judgedByZeroAndOne();
        judgedWithAFault();
        doneOrRefused();
        placesOfBothRows();
        placeOfNobody();
        ofEveryMember();
        bellsBehind();
        behindIsNotDone();
        check.end();
    }

    private static void judged(String done, String days, int act, int why) {
        WovenRows x = Check.tell(Check.behind(done), days);
        check.due("judge(0) of '" + days + "' behind '" + done + "'", x.judge(0), act);
        check.due("judge(1) of '" + days + "' behind '" + done + "'", x.judge(1), why);
        check.due("done() of '" + days + "' is refused just then", x.done() == NO ? 1 : 0, act == NONE ? 0 : 1);
    }

    private static void rowIs(String label, WovenRows x, int row, String members) {
        for (int i = 0; i < 6; i++) {
            int due = i < members.length() ? members.charAt(i) - 'A' : NONE;
            check.due(label + ": row " + row + ", place " + i, x.told(80 + 10 * row + i), due);
        }
        check.due(label + ": how many in row " + row, x.told(1 + row), members.length());
    }

    // "A ROW is of 6 at most"; "2 the ROW is of 6 (d, u)".
    private static void rowOfSixAtMost() {
        judged("AdBdCdDdEd", "Fd", NONE, NONE);
        judged("AdBdCdDdEdFd", "Gd", 0, 2);
        judged("AuBuCuDuEu", "Fu", NONE, NONE);
        judged("AuBuCuDuEuFu", "Gu", 0, 2);
        judged("AdBdCdDdEdFdGuHuIuJu", "A-Au", NONE, NONE);
        judged("", "AdBdCdDdEdFdGd", 6, 2);
        judged("", "AuBuCuDuEuFuGu", 6, 2);
        judged("AdBdCdDdEdFd", "A-GdAd", 2, 2);
        judged("AdBdCdDdEdFdGu", "AxGHd", 1, 2);
        rowIs("six in row 0", Check.behind("JdIdHdGdFdEd"), 0, "JIHGFE");
        rowIs("six in row 1", Check.behind("JuIuHuGuFuEu"), 1, "JIHGFE");
    }

    // "in places from 0 on"; "d (it joins ROW 0, in the last place), u (ROW 1)".
    private static void joinsInTheLastPlace() {
        rowIs("the first", Check.behind("Jd"), 0, "J");
        rowIs("the second", Check.behind("JdAd"), 0, "JA");
        rowIs("again behind all", Check.behind("JdAdBdJ-Jd"), 0, "ABJ");
        rowIs("the first of row 1", Check.behind("AdJu"), 1, "J");
        rowIs("the second of row 1", Check.behind("AdJuBu"), 1, "JB");
        rowIs("into an empty row again", Check.behind("JuJ-Ju"), 1, "J");
        rowIs("from one row to the other", Check.behind("AdBdCuA-Au"), 1, "CA");
    }

    // "- (it goes HOME; who was behind it is a place ahead)".
    private static void whoWasBehindIsAPlaceAhead() {
        rowIs("of the first", Check.behind("AdBdCdDdEdFdA-"), 0, "BCDEF");
        rowIs("of one between", Check.behind("AdBdCdDdEdFdC-"), 0, "ABDEF");
        rowIs("of the last", Check.behind("AdBdCdDdEdFdF-"), 0, "ABCDE");
        rowIs("of the only one", Check.behind("AdA-"), 0, "");
        WovenRows x = Check.behind("AdBdCuDuEuC-");
        rowIs("of row 1", x, 1, "DE");
        rowIs("the other row stays", x, 0, "AB");
        check.due("C is at home", x.of(2, 0), 2);
        check.due("C has no place", x.of(2, 1), NONE);
        rowIs("all go", Check.behind("AdBdCdB-A-C-"), 0, "");
    }

    // "x and another MEMBER's letter (both change places, whatever ROWS they are in)".
    private static void bothChangePlaces() {
        rowIs("first and last of a row", Check.behind("AdBdCdDdEdFdAxF"), 0, "FBCDEA");
        rowIs("last and first of a row", Check.behind("AuBuCuDuEuFuFxA"), 1, "FBCDEA");
        WovenRows x = Check.behind("AdBdCdDuEuBxE");
        rowIs("across rows", x, 0, "AEC");
        rowIs("across rows", x, 1, "DB");
        WovenRows y = Check.behind("AdBdCdDdEdFdGuHuIuJuJxA");
        rowIs("across rows, one being full", y, 0, "JBCDEF");
        rowIs("across rows, one being full", y, 1, "GHIA");
        rowIs("twice is as before", Check.behind("AdBdCuAxCCxA"), 0, "AB");
    }

    // "1 it is in a ROW already (d, u), is at HOME (-".
    private static void joinsOrGoesHomeTwice() {
        judged("Ad", "Ad", 0, 1);
        judged("Ad", "Au", 0, 1);
        judged("Au", "Au", 0, 1);
        judged("Au", "Ad", 0, 1);
        judged("", "A-", 0, 1);
        judged("Ad", "A-A-", 1, 1);
        judged("Au", "A-A-", 1, 1);
        judged("Jd", "J-", NONE, NONE);
        judged("Ju", "J-", NONE, NONE);
        judged("Ju", "J-Jd", NONE, NONE);
    }

    // "is at HOME (-, x: one of both)".
    private static void changesPlacesWithOneAtHome() {
        judged("", "AxB", 0, 1);
        judged("Ad", "AxB", 0, 1);
        judged("Ad", "BxA", 0, 1);
        judged("Bu", "AxB", 0, 1);
        judged("AdBu", "AxB", NONE, NONE);
        judged("AdBu", "B-AxB", 1, 1);
    }

    // "3 both are one (x)".
    private static void changesPlacesWithItself() {
        judged("Ad", "AxA", 0, 3);
        judged("AdBdCuDuJu", "JxJ", 0, 3);
        judged("AdBu", "AxBBxB", 1, 3);
    }

    // "An ACT can not be for the least of these reasons".
    private static void leastOfTheReasons() {
        judged("AdBdCdDdEdFd", "Ad", 0, 1);
        judged("AdBdCdDdEdFdGu", "Gd", 0, 1);
        judged("AuBuCuDuEuFu", "Fu", 0, 1);
        judged("", "AxA", 0, 1);
        judged("Bd", "AxA", 0, 1);
    }

    private static WovenRows withBells(int many) {
        WovenRows x = new WovenRows();
        for (int i = 0; i < many; i++) {
            if (x.say('!') == 60) {
                x.done();
            }
        }
        x.done();
        return x;
    }

    // "! (a bell: BELLS are 1 more)"; "4 there are 99 BELLS (!)".
    private static void ninetyNineBells() {
        WovenRows x = withBells(98);
        check.due("bells", x.told(3), 98);
        Check.tell(x, "!");
        check.due("the 99th can be", x.judge(1), NONE);
        x.say('!');
        check.due("the 100th can not", x.judge(0), 1);
        check.due("why", x.judge(1), 4);
        check.due("it is not done", x.done(), NO);
        Check.tell(x, "!");
        check.due("the 99th is done", x.done(), 1);
        check.due("99 bells", x.told(3), 99);
        Check.tell(x, "Ad");
        check.due("who joins needs no bell", x.done(), 1);
        Check.tell(x, "Bd!");
        check.due("the act", x.judge(0), 1);
        check.due("why", x.judge(1), 4);
        check.due("bells() behind it", x.bells(), NO);
        Check.tell(x, "!B-");
        check.due("the first act counts", x.judge(0), 0);
        check.due("and its reason", x.judge(1), 4);
        check.due("99 bells still", x.told(3), 99);
    }

    // "JUDGED: of DAYS the first ACT (from 0 on) that can not be, and why"; "NONE".
    private static void firstActThatCanNotBe() {
        judged("", "", NONE, NONE);
        judged("", "A-!!", 0, 1);
        judged("", "!A-!B-", 1, 1);
        judged("Ad", "AxAA-A-", 0, 3);
        judged("", "!!!!!!!!!!!!!!!!!!!!!!!!!!!!!!!!!!!!!!!!!!!!!!!!!!!!!!!!!!A-", 58, 1);
        judged("", "AdAxA!", 1, 3);
        WovenRows x = withBells(40);
        Check.tell(x, TWENTY_BELLS + TWENTY_BELLS + TWENTY_BELLS);
        check.due("the last of sixty acts", x.judge(0), 59);
        check.due("why", x.judge(1), 4);
    }

    // "the ACT (what = 0), why (1) ... OUTSIDE".
    private static void judgedByZeroAndOne() {
        WovenRows x = Check.tell(new WovenRows(), "!A-");
        check.due("judge(-1)", x.judge(-1), OUTSIDE);
        check.due("judge(0)", x.judge(0), 1);
        check.due("judge(1)", x.judge(1), 1);
        check.due("judge(2)", x.judge(2), OUTSIDE);
        for (int far : FAR) {
            check.due("judge(" + far + ")", x.judge(far), OUTSIDE);
        }
    }

    // "NO: there is a FAULT", which comes behind OUTSIDE.
    private static void judgedWithAFault() {
        for (String days : new String[] {"z", "A", "Ax", "A-z", "A-B", "AdAdK"}) {
            WovenRows x = Check.tell(new WovenRows(), days);
            check.due("judge(0) of '" + days + "'", x.judge(0), NO);
            check.due("judge(1) of '" + days + "'", x.judge(1), NO);
            check.due("judge(-1) of '" + days + "'", x.judge(-1), OUTSIDE);
            check.due("judge(2) of '" + days + "'", x.judge(2), OUTSIDE);
            check.due("the signs stay", x.told(0), days.length());
        }
    }

    // "DAYS on the PAD are DONE (it is empty then): ACTS. NO: there is a FAULT, or an ACT that can not be."
    private static void doneOrRefused() {
        WovenRows x = new WovenRows();
        check.due("no acts", x.done(), 0);
        check.due("one act", Check.tell(x, "Ad").done(), 1);
        check.due("the pad is empty then", x.told(0), 0);
        check.due("nothing more to do", x.done(), 0);
        check.due("three signs, one act", Check.tell(x, "BuAxB").done(), 2);
        check.due("sixty acts", Check.tell(x, TWENTY_BELLS + TWENTY_BELLS + TWENTY_BELLS).done(), 60);
        check.due("a fault", Check.tell(x, "CdD").done(), NO);
        check.due("the signs stay", x.told(0), 3);
        check.due("C has not joined", x.told(1), 1);
        check.due("it goes on, and is done", x.say('u') == 4 ? x.done() : 0, 2);
        check.due("the last of three can not be", Check.tell(x, "E-").done(), NO);
        check.due("nor with more ahead", Check.tell(x, "EuFuC-C-").done(), NO);
        check.due("the signs stay", x.told(0), 8);
        check.due("E has not joined", x.told(2), 2);
        check.due("C is where it was", x.told(1), 2);
        check.due("bells as they were", x.told(3), 60);
    }

    // "place: OUTSIDE: the ROW, the place 0 to 5; NO, as of done()".
    private static void placesOfBothRows() {
        WovenRows x = Check.behind("AdBdCdDdEdFdGuHuIuJu");
        for (int i = 0; i <= 5; i++) {
            check.due("place(0, " + i + ")", x.place(0, i), i);
            check.due("place(1, " + i + ")", x.place(1, i), i < 4 ? 6 + i : NONE);
        }
        check.due("place(0, -1)", x.place(0, -1), OUTSIDE);
        check.due("place(0, 6)", x.place(0, 6), OUTSIDE);
        check.due("place(1, -1)", x.place(1, -1), OUTSIDE);
        check.due("place(1, 6)", x.place(1, 6), OUTSIDE);
        check.due("place(-1, 0)", x.place(-1, 0), OUTSIDE);
        check.due("place(2, 0)", x.place(2, 0), OUTSIDE);
        for (int far : FAR) {
            check.due("place(" + far + ", 0)", x.place(far, 0), OUTSIDE);
            check.due("place(0, " + far + ")", x.place(0, far), OUTSIDE);
        }
        for (String days : new String[] {"z", "A", "Ax", "Ad", "AxA", "Gd", "!A-A-"}) {
            Check.tell(x, days);
            check.due("place(0, 0) behind '" + days + "'", x.place(0, 0), NO);
            check.due("place(1, 5) behind '" + days + "'", x.place(1, 5), NO);
            check.due("place(2, 0) behind '" + days + "'", x.place(2, 0), OUTSIDE);
            check.due("place(0, 6) behind '" + days + "'", x.place(0, 6), OUTSIDE);
        }
    }

    // "BEHIND, likewise, not being DONE: who is in a place of a ROW (NONE)".
    private static void placeOfNobody() {
        WovenRows x = new WovenRows();
        for (int i = 0; i <= 5; i++) {
            check.due("place(0, " + i + ") of nobody", x.place(0, i), NONE);
            check.due("place(1, " + i + ") of nobody", x.place(1, i), NONE);
        }
        Check.tell(x, "AdBdA-");
        check.due("the place ahead", x.place(0, 0), 1);
        check.due("the place that is left", x.place(0, 1), NONE);
    }

    // "of a MEMBER its ROW (2: HOME), its place (NONE)"; "UNKNOWN; OUTSIDE; NO, likewise".
    private static void ofEveryMember() {
        WovenRows x = Check.tell(Check.behind("AdBdCdDdEdFdGu"), "HuJuF-");
        int[] row = {0, 0, 0, 0, 0, 2, 1, 1, 2, 1};
        int[] place = {0, 1, 2, 3, 4, NONE, 0, 1, NONE, 2};
        for (int member = 0; member <= 9; member++) {
            check.due("of(" + member + ", 0)", x.of(member, 0), row[member]);
            check.due("of(" + member + ", 1)", x.of(member, 1), place[member]);
        }
        check.due("of(-1, 0)", x.of(-1, 0), UNKNOWN);
        check.due("of(10, 0)", x.of(10, 0), UNKNOWN);
        check.due("of(0, -1)", x.of(0, -1), OUTSIDE);
        check.due("of(0, 2)", x.of(0, 2), OUTSIDE);
        check.due("of(10, 2)", x.of(10, 2), UNKNOWN);
        for (int far : FAR) {
            check.due("of(" + far + ", 0)", x.of(far, 0), UNKNOWN);
            check.due("of(0, " + far + ")", x.of(0, far), OUTSIDE);
        }
        for (String days : new String[] {"z", "A", "Ad", "I-", "AxA"}) {
            Check.tell(x, days);
            check.due("of(9, 0) behind '" + days + "'", x.of(9, 0), NO);
            check.due("of(0, 1) behind '" + days + "'", x.of(0, 1), NO);
            check.due("of(0, 2) behind '" + days + "'", x.of(0, 2), OUTSIDE);
            check.due("of(10, 0) behind '" + days + "'", x.of(10, 0), UNKNOWN);
        }
    }

    // "how many BELLS"; "BEHIND: BELLS. NO, likewise."
    private static void bellsBehind() {
        WovenRows x = new WovenRows();
        check.due("none", x.bells(), 0);
        check.due("one", Check.tell(x, "!").bells(), 1);
        check.due("none by other acts", Check.tell(x, "AdBuAxBA-").bells(), 0);
        check.due("with a fault", Check.tell(x, "!A").bells(), NO);
        check.due("with an act that can not be", Check.tell(x, "!A-").bells(), NO);
        WovenRows y = withBells(98);
        check.due("98", y.bells(), 98);
        check.due("99", Check.tell(y, "!").bells(), 99);
        check.due("not 100", Check.tell(y, "!!").bells(), NO);
    }

    // "BEHIND, likewise, not being DONE": asked twice it is the same, and told() tells of now.
    private static void behindIsNotDone() {
        WovenRows x = Check.tell(Check.behind("AdBu!"), "A-CdCxB!");
        for (int turn = 0; turn < 2; turn++) {
            check.due("behind: row 0", x.place(0, 0), 1);
            check.due("behind: row 1", x.place(1, 0), 2);
            check.due("behind: A", x.of(0, 0), 2);
            check.due("behind: bells", x.bells(), 2);
            check.due("now: row 0", x.told(80), 0);
            check.due("now: row 1", x.told(90), 1);
            check.due("now: bells", x.told(3), 1);
            check.due("now: signs", x.told(0), 8);
        }
        check.due("now: a member of each row", x.meets(0), 1);
        check.due("done", x.done(), 4);
        check.due("now as behind", x.told(80), 1);
    }
}
