/** Promises 8 to 12: days judged, done, and what is behind them. */
public final class Part2Test {
    private static final int NONE = WovenRows.NONE;
    private static final int NO = WovenRows.NO;
    private static final Check check = new Check();

    public static void main(String[] args) {
        promise8Judge();
        promise8NinetyNineBells();
        promise9Done();
        promise10Place();
        promise11Of();
        promise12Bells();
        check.end();
    }

    private static void judged(String done, String days, int act, int why) {
        WovenRows x = Check.tell(Check.behind(done), days);
        String before = Check.stateOf(x);
        String label = "'" + days + "' behind '" + done + "'";
        check.due("judge(0) of " + label, x.judge(0), act);
        check.due("judge(1) of " + label, x.judge(1), why);
        check.holds("judge of " + label + " changes nothing", before.equals(Check.stateOf(x)));
    }

    private static void promise8Judge() {
        judged("", "", NONE, NONE);
        judged("", "AdBuA-AuAxB!", NONE, NONE);
        judged("", "A-", 0, 1);
        judged("", "AdAd", 1, 1);
        judged("", "AdAu", 1, 1);
        judged("Ad", "Au", 0, 1);
        judged("", "AxB", 0, 1);
        judged("", "AdAxB", 1, 1);
        judged("", "AdBxA", 1, 1);
        judged("", "AxA", 0, 1);
        judged("", "AdAxA", 1, 3);
        judged("AdBdCdDdEdFd", "Gd", 0, 2);
        judged("AdBdCdDdEdFd", "GuHuIuJuA-B-AuBuCu", 8, 1);
        judged("AdBdCdDdEdFd", "GuHuIuJuA-B-AuBuC-Cu", 9, 2);
        judged("AdBdCdDdEdFd", "Ad", 0, 1);
        judged("AdBdCdDdEdFd", "A-Gd", NONE, NONE);
        judged("AuBuCuDuEuFu", "Gu", 0, 2);
        judged("AuBuCuDuEuFu", "Gd", NONE, NONE);
        judged("", "!!A-AxAB-", 2, 1);
        WovenRows x = Check.tell(new WovenRows(), "AdB");
        check.due("judge(0) with a fault", x.judge(0), NO);
        check.due("judge(1) with a fault", x.judge(1), NO);
        check.due("judge(2) with a fault", x.judge(2), WovenRows.OUTSIDE);
        check.due("judge(-1)", x.judge(-1), WovenRows.OUTSIDE);
        check.due("judge(2)", new WovenRows().judge(2), WovenRows.OUTSIDE);
    }

    private static void promise8NinetyNineBells() {
        WovenRows x = Check.behind("!!!!!!!!!!!!!!!!!!!!!!!!!!!!!!!!!!!!!!!!!!!!!!!!!!!!!!!!!!!!");
        Check.tell(x, "!!!!!!!!!!!!!!!!!!!!!!!!!!!!!!!!!!!!!!!");
        check.due("judge(0) of the 99th bell", x.judge(0), NONE);
        check.due("bells() of the 99th bell", x.bells(), 99);
        x.say('!');
        check.due("judge(0) of the 100th bell", x.judge(0), 39);
        check.due("judge(1) of the 100th bell", x.judge(1), 4);
        check.due("bells() of the 100th bell", x.bells(), NO);
        check.due("done() of the 100th bell", x.done(), NO);
        check.due("bells as they were", x.told(3), 60);
    }

    private static void promise9Done() {
        WovenRows x = new WovenRows();
        check.due("done() of nothing", x.done(), 0);
        Check.tell(x, "AdBuC");
        check.due("done() with a fault", x.done(), NO);
        check.due("signs stay", x.told(0), 5);
        Check.tell(x, "AdBuAd");
        check.due("done() with an act that can not be", x.done(), NO);
        check.due("signs stay", x.told(0), 6);
        check.due("nobody joined", x.told(1) + x.told(2), 0);
        Check.tell(x, "AdBdCdDu!B-");
        check.due("done()", x.done(), 6);
        check.due("signs go", x.told(0), 0);
        check.due("row 0", x.told(1), 2);
        check.due("row 1", x.told(2), 1);
        check.due("bells", x.told(3), 1);
        check.due("row 0 place 0", x.told(80), 0);
        check.due("row 0 place 1: C is a place ahead", x.told(81), 2);
        check.due("row 0 place 2", x.told(82), NONE);
        check.due("row 1 place 0", x.told(90), 3);
        Check.tell(x, "AxD");
        check.due("done() of a change between rows", x.done(), 1);
        check.due("row 0 place 0", x.told(80), 3);
        check.due("row 1 place 0", x.told(90), 0);
        Check.tell(x, "DxC");
        check.due("done() of a change in a row", x.done(), 1);
        check.due("row 0 place 0", x.told(80), 2);
        check.due("row 0 place 1", x.told(81), 3);
        check.due("done() again, of nothing", x.done(), 0);
        WovenRows y = Check.behind("BdCdAdB-");
        check.due("row 0 place 0 behind B", y.told(80), 2);
        check.due("row 0 place 1 behind B", y.told(81), 0);
        check.due("row 0 place 2 behind B", y.told(82), NONE);
    }

    private static void promise10Place() {
        WovenRows x = Check.tell(Check.behind("AdBdCu"), "A-AuDdBxC");
        int[] down = {2, 3, NONE, NONE, NONE, NONE};
        int[] up = {1, 0, NONE, NONE, NONE, NONE};
        String before = Check.stateOf(x);
        for (int i = 0; i < 6; i++) {
            check.due("place(0, " + i + ")", x.place(0, i), down[i]);
            check.due("place(1, " + i + ")", x.place(1, i), up[i]);
        }
        check.holds("place() does nothing in fact", before.equals(Check.stateOf(x)));
        check.due("place(-1, 0)", x.place(-1, 0), WovenRows.OUTSIDE);
        check.due("place(2, 0)", x.place(2, 0), WovenRows.OUTSIDE);
        check.due("place(0, -1)", x.place(0, -1), WovenRows.OUTSIDE);
        check.due("place(0, 6)", x.place(0, 6), WovenRows.OUTSIDE);
        Check.tell(x, "A");
        check.due("place(0, 0) with a fault", x.place(0, 0), NO);
        check.due("place(0, 6) with a fault", x.place(0, 6), WovenRows.OUTSIDE);
        Check.tell(x, "J-");
        check.due("place(0, 0) with an act that can not be", x.place(0, 0), NO);
        x.wipe();
        check.due("place(0, 0) of no days", x.place(0, 0), 0);
    }

    private static void promise11Of() {
        WovenRows x = Check.tell(Check.behind("AdBdCu"), "A-AuDdBxC");
        int[] row = {1, 1, 0, 0, 2};
        int[] place = {1, 0, 0, 1, NONE};
        for (int member = 0; member < 5; member++) {
            check.due("of(" + member + ", 0)", x.of(member, 0), row[member]);
            check.due("of(" + member + ", 1)", x.of(member, 1), place[member]);
        }
        check.due("nothing is done in fact", x.told(80), 0);
        check.due("of(-1, 0)", x.of(-1, 0), WovenRows.UNKNOWN);
        check.due("of(10, 2)", x.of(10, 2), WovenRows.UNKNOWN);
        check.due("of(0, 2)", x.of(0, 2), WovenRows.OUTSIDE);
        check.due("of(0, -1)", x.of(0, -1), WovenRows.OUTSIDE);
        Check.tell(x, "A");
        check.due("of(0, 0) with a fault", x.of(0, 0), NO);
        check.due("of(0, 2) with a fault", x.of(0, 2), WovenRows.OUTSIDE);
        check.due("of(10, 0) with a fault", x.of(10, 0), WovenRows.UNKNOWN);
        Check.tell(x, "AxA");
        check.due("of(0, 1) with an act that can not be", x.of(0, 1), NO);
    }

    private static void promise12Bells() {
        WovenRows x = Check.behind("!!");
        check.due("bells() of no days", x.bells(), 2);
        Check.tell(x, "!Ad!!");
        check.due("bells()", x.bells(), 5);
        check.due("nothing is done in fact", x.told(3), 2);
        x.say('?');
        check.due("bells() with a fault", x.bells(), NO);
        Check.tell(x, "!A-");
        check.due("bells() with an act that can not be", x.bells(), NO);
    }
}
