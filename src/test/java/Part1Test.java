/** Promises 1 to 7: members, the street, days as they are told. */
public final class Part1Test {
    private static final Check check = new Check();

    public static void main(String[] args) {
        promise1NewObject();
        promise2Member();
        promise3Wide();
        promise4Delay();
        promise5Say();
        promise6Wipe();
        promise7Fault();
        check.end();
    }

    private static void promise1NewObject() {
        WovenRows x = new WovenRows();
        for (int what = 0; what <= 7; what++) {
            check.due("new: told(" + what + ")", x.told(what), 0);
        }
        for (int member = 0; member < 10; member++) {
            check.due("new: of(" + member + ", 0)", x.of(member, 0), 2);
            check.due("new: of(" + member + ", 1)", x.of(member, 1), WovenRows.NONE);
            check.due("new: width of " + member, x.told(40 + member), 5);
            check.due("new: key of " + member, x.told(60 + member), 12);
        }
        for (int cell = 0; cell <= 16; cell++) {
            check.due("new: wide " + cell, x.told(20 + cell), 12);
        }
        for (int i = 0; i < 6; i++) {
            check.due("new: row 0 place " + i, x.told(80 + i), WovenRows.NONE);
            check.due("new: row 1 place " + i, x.told(90 + i), WovenRows.NONE);
        }
        check.due("new: fault()", x.fault(), WovenRows.NONE);
        check.due("new: unrule()", x.unrule(), 0);
        check.due("new: forget()", x.forget(), 0);
        check.due("new: restore(0)", x.restore(0), WovenRows.STATE);
        check.due("new: restore(1)", x.restore(1), WovenRows.STATE);
    }

    private static void promise2Member() {
        WovenRows x = new WovenRows();
        check.due("member(0, 1, 0)", x.member(0, 1, 0), 5);
        check.due("member(0, 15, 12)", x.member(0, 15, 12), 1);
        check.due("member(9, 15, 11)", x.member(9, 15, 11), 5);
        check.due("width of 0", x.told(40), 15);
        check.due("key of 0", x.told(60), 12);
        check.due("width of 9", x.told(49), 15);
        check.due("key of 9", x.told(69), 11);
        check.due("width of 1 stays", x.told(41), 5);
        String before = Check.stateOf(x);
        check.due("member(-1, 5, 5)", x.member(-1, 5, 5), WovenRows.UNKNOWN);
        check.due("member(10, 5, 5)", x.member(10, 5, 5), WovenRows.UNKNOWN);
        check.due("member(10, 0, 13)", x.member(10, 0, 13), WovenRows.UNKNOWN);
        check.due("member(min, 5, 5)", x.member(Integer.MIN_VALUE, 5, 5), WovenRows.UNKNOWN);
        check.due("member(max, 5, 5)", x.member(Integer.MAX_VALUE, 5, 5), WovenRows.UNKNOWN);
        check.due("member(0, 0, 5)", x.member(0, 0, 5), WovenRows.OUTSIDE);
        check.due("member(0, 16, 5)", x.member(0, 16, 5), WovenRows.OUTSIDE);
        check.due("member(0, 5, -1)", x.member(0, 5, -1), WovenRows.OUTSIDE);
        check.due("member(0, 5, 13)", x.member(0, 5, 13), WovenRows.OUTSIDE);
        check.holds("refused member() changes nothing", before.equals(Check.stateOf(x)));
        WovenRows y = Check.behind("AdBu");
        check.due("member of a row", y.member(0, 8, 3), 5);
        check.due("it stays in its row", y.told(80), 0);
        check.due("it clashes by its new width", y.meets(1), 1);
    }

    private static void promise3Wide() {
        WovenRows x = new WovenRows();
        check.due("wide(0, 1)", x.wide(0, 1), 12);
        check.due("wide(0, 30)", x.wide(0, 30), 1);
        check.due("wide(16, 30)", x.wide(16, 30), 12);
        check.due("told(20)", x.told(20), 30);
        check.due("told(36)", x.told(36), 30);
        check.due("told(21)", x.told(21), 12);
        String before = Check.stateOf(x);
        check.due("wide(-1, 5)", x.wide(-1, 5), WovenRows.UNKNOWN);
        check.due("wide(17, 5)", x.wide(17, 5), WovenRows.UNKNOWN);
        check.due("wide(17, 0)", x.wide(17, 0), WovenRows.UNKNOWN);
        check.due("wide(0, 0)", x.wide(0, 0), WovenRows.OUTSIDE);
        check.due("wide(0, 31)", x.wide(0, 31), WovenRows.OUTSIDE);
        check.due("wide(0, min)", x.wide(0, Integer.MIN_VALUE), WovenRows.OUTSIDE);
        check.holds("refused wide() changes nothing", before.equals(Check.stateOf(x)));
    }

    private static void promise4Delay() {
        WovenRows x = new WovenRows();
        check.due("delay(0, 20)", x.delay(0, 20), 0);
        check.due("delay(1, 7)", x.delay(1, 7), 0);
        check.due("delay(0, 0)", x.delay(0, 0), 20);
        check.due("delay(1, 8)", x.delay(1, 8), 7);
        check.due("told(6)", x.told(6), 0);
        check.due("told(7)", x.told(7), 8);
        String before = Check.stateOf(x);
        check.due("delay(-1, 0)", x.delay(-1, 0), WovenRows.OUTSIDE);
        check.due("delay(2, 0)", x.delay(2, 0), WovenRows.OUTSIDE);
        check.due("delay(0, -1)", x.delay(0, -1), WovenRows.OUTSIDE);
        check.due("delay(0, 21)", x.delay(0, 21), WovenRows.OUTSIDE);
        check.holds("refused delay() changes nothing", before.equals(Check.stateOf(x)));
    }

    private static void promise5Say() {
        WovenRows x = new WovenRows();
        check.due("say(32)", x.say(32), WovenRows.OUTSIDE);
        check.due("say(127)", x.say(127), WovenRows.OUTSIDE);
        check.due("say(-1)", x.say(-1), WovenRows.OUTSIDE);
        check.due("say(max)", x.say(Integer.MAX_VALUE), WovenRows.OUTSIDE);
        check.due("say(min)", x.say(Integer.MIN_VALUE), WovenRows.OUTSIDE);
        check.due("nothing said", x.told(0), 0);
        for (int i = 1; i <= 60; i++) {
            check.due("say number " + i, x.say(i % 2 == 0 ? 126 : 33), i);
        }
        check.due("say the 61st", x.say(33), WovenRows.FULL);
        check.due("say(32) on a full pad", x.say(32), WovenRows.OUTSIDE);
        check.due("signs", x.told(0), 60);
    }

    private static void promise6Wipe() {
        WovenRows x = new WovenRows();
        check.due("wipe() of nothing", x.wipe(), 0);
        Check.tell(x, "Adz");
        check.due("wipe()", x.wipe(), 3);
        check.due("signs behind it", x.told(0), 0);
        check.due("fault behind it", x.fault(), WovenRows.NONE);
        check.due("wipe() again", x.wipe(), 0);
        for (int i = 0; i < 60; i++) {
            x.say('!');
        }
        check.due("wipe() of a full pad", x.wipe(), 60);
        check.due("say behind it", x.say('A'), 1);
    }

    private static void promise7Fault() {
        String[] sound = {"", "!", "Ad", "Ju", "A-", "AxB", "AxA", "!!", "AdBuCxDE-!", "JxJJd"};
        for (String days : sound) {
            check.due("fault of '" + days + "'", Check.tell(new WovenRows(), days).fault(), WovenRows.NONE);
        }
        String[] broken = {"d", "a", "K", "@", "Ak", "AA", "A!", "Axd", "Ax!", "AxK", "Ax-", "AdB",
            "Ad!d", "A", "Ax", "!!!B", "AxBx", "Ad-", "AD", "Axx", "z", "1", "~"};
        int[] place = {0, 0, 0, 0, 1, 1, 1, 2, 2, 2, 2, 3, 3, 1, 2, 4, 3, 2, 1, 2, 0, 0, 0};
        for (int i = 0; i < broken.length; i++) {
            check.due("fault of '" + broken[i] + "'", Check.tell(new WovenRows(), broken[i]).fault(), place[i]);
        }
        WovenRows x = new WovenRows();
        for (int i = 0; i < 59; i++) {
            x.say('!');
        }
        x.say('A');
        check.due("fault of a full pad that wants more", x.fault(), 60);
        check.due("signs stay", x.told(0), 60);
    }
}
