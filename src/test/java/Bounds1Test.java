/**
 * The boundary cases of part 1 (members, the street, days), a test for each
 * sentence of the document that names one; the sentence stands above its test.
 */
public final class Bounds1Test {
    private static final int NONE = WovenRows.NONE;
    private static final int UNKNOWN = WovenRows.UNKNOWN;
    private static final int OUTSIDE = WovenRows.OUTSIDE;
    private static final int[] FAR = {Integer.MIN_VALUE, -1000000, 1000000, Integer.MAX_VALUE};
    private static final Check check = new Check();

    public static void main(String[] args) {
        cellsZeroToSixteen();
        cellsOneToThirtyWide();
        membersZeroToNine();
        widthOneToFifteen();
        keyZeroToElevenOrSilent();
        keptByAMemberWhereverItIs();
        delayZeroToTwenty();
        delayOfTheRowsZeroAndOne();
        padOfSixtySigns();
        codesThirtyThreeToOneHundredTwentySix();
        wipedAndSaidAnew();
        faultOfEverySignWhereAnActBegins();
        faultOfEverySignBehindALetter();
        faultOfEverySignBehindAnX();
        faultIsTheFirst();
        faultIfMoreMustCome();
        check.end();
    }

    // "The STREET has CELLS 0 (the upper end) to 16"; "wide: UNKNOWN".
    private static void cellsZeroToSixteen() {
        WovenRows x = new WovenRows();
        for (int cell = 0; cell <= 16; cell++) {
            check.due("wide(" + cell + ", 20)", x.wide(cell, 20), 12);
            check.due("told of cell " + cell, x.told(20 + cell), 20);
            check.due("wide(" + cell + ", 12) again", x.wide(cell, 12), 20);
        }
        check.due("the cell ahead of the first", x.wide(-1, 20), UNKNOWN);
        check.due("the cell behind the last", x.wide(17, 20), UNKNOWN);
        for (int far : FAR) {
            check.due("wide(" + far + ", 20)", x.wide(far, 20), UNKNOWN);
            check.due("wide(" + far + ", 31): UNKNOWN is ahead", x.wide(far, 31), UNKNOWN);
        }
        for (int cell = 0; cell <= 16; cell++) {
            check.due("cell " + cell + " as it was", x.told(20 + cell), 12);
        }
    }

    // "each 1 to 30 WIDE (12 at first)"; "How WIDE a CELL is: how it was ... OUTSIDE".
    private static void cellsOneToThirtyWide() {
        WovenRows x = new WovenRows();
        int was = 12;
        for (int v = 1; v <= 30; v++) {
            check.due("wide(16, " + v + ")", x.wide(16, v), was);
            was = v;
        }
        check.due("no cell is 0 wide", x.wide(16, 0), OUTSIDE);
        check.due("no cell is 31 wide", x.wide(16, 31), OUTSIDE);
        check.due("no cell is -1 wide", x.wide(16, -1), OUTSIDE);
        for (int far : FAR) {
            check.due("wide(16, " + far + ")", x.wide(16, far), OUTSIDE);
        }
        check.due("as wide as before", x.told(36), 30);
        check.due("wide(16, 1) from 30", x.wide(16, 1), 30);
        check.due("the same again", x.wide(16, 1), 1);
    }

    // "MEMBERS 0 to 9 (A to J)"; "member: UNKNOWN".
    private static void membersZeroToNine() {
        WovenRows x = new WovenRows();
        for (int member = 0; member <= 9; member++) {
            check.due("member(" + member + ", 6, 7)", x.member(member, 6, 7), 5);
            check.due("of(" + member + ", 0)", x.of(member, 0), 2);
        }
        check.due("member -1", x.member(-1, 6, 7), UNKNOWN);
        check.due("member 10", x.member(10, 6, 7), UNKNOWN);
        check.due("member 10, too wide: UNKNOWN is ahead", x.member(10, 16, 7), UNKNOWN);
        check.due("member -1, no such key: UNKNOWN is ahead", x.member(-1, 6, 13), UNKNOWN);
        for (int far : FAR) {
            check.due("member " + far, x.member(far, 6, 7), UNKNOWN);
        }
        WovenRows y = Check.behind("AdBdCdDdEdFuGuHuIuJu");
        for (int i = 0; i < 5; i++) {
            check.due("the letter of " + i, y.told(80 + i), i);
            check.due("the letter of " + (5 + i), y.told(90 + i), 5 + i);
        }
        check.due("the sign ahead of A is no member's", Check.tell(y, "@-").fault(), 0);
        check.due("the sign behind J is no member's", Check.tell(y, "K-").fault(), 0);
    }

    // "each has a WIDTH (1 to 15; 5 at first)"; "which WIDTH it was".
    private static void widthOneToFifteen() {
        WovenRows x = new WovenRows();
        int was = 5;
        for (int width = 1; width <= 15; width++) {
            check.due("member(9, " + width + ", 12)", x.member(9, width, 12), was);
            was = width;
        }
        check.due("nobody is 0 wide", x.member(9, 0, 3), OUTSIDE);
        check.due("nobody is 16 wide", x.member(9, 16, 3), OUTSIDE);
        check.due("nobody is -1 wide", x.member(9, -1, 3), OUTSIDE);
        for (int far : FAR) {
            check.due("width " + far, x.member(9, far, 3), OUTSIDE);
        }
        check.due("the width is as before", x.told(49), 15);
        check.due("and so is the key", x.told(69), 12);
    }

    // "and plays in a KEY (0 to 11), or is silent (12; at first)".
    private static void keyZeroToElevenOrSilent() {
        WovenRows x = new WovenRows();
        check.due("silent at first", x.told(60), 12);
        for (int key = 0; key <= 12; key++) {
            check.due("member(0, 5, " + key + ")", x.member(0, 5, key), 5);
            check.due("its key", x.told(60), key);
        }
        x.member(0, 5, 4);
        check.due("key -1", x.member(0, 6, -1), OUTSIDE);
        check.due("key 13", x.member(0, 6, 13), OUTSIDE);
        for (int far : FAR) {
            check.due("key " + far, x.member(0, 6, far), OUTSIDE);
        }
        check.due("the key is as before", x.told(60), 4);
        check.due("and so is the width", x.told(40), 5);
    }

    // "WIDTH, KEY of a MEMBER (wherever it is)".
    private static void keptByAMemberWhereverItIs() {
        WovenRows x = Check.behind("AdBu");
        check.due("at home", x.member(2, 7, 1), 5);
        check.due("in row 0", x.member(0, 8, 2), 5);
        check.due("in row 1", x.member(1, 9, 3), 5);
        Check.tell(x, "A-B-CuAuBd").done();
        int[] width = {8, 9, 7};
        int[] key = {2, 3, 1};
        for (int member = 0; member < 3; member++) {
            check.due("width of " + member + " elsewhere", x.told(40 + member), width[member]);
            check.due("key of " + member + " elsewhere", x.told(60 + member), key[member]);
        }
    }

    // "DELAY of a ROW is 0 to 20 (0 at first)"; "which it was".
    private static void delayZeroToTwenty() {
        for (int row = 0; row <= 1; row++) {
            WovenRows x = new WovenRows();
            int was = 0;
            for (int beats = 0; beats <= 20; beats++) {
                check.due("delay(" + row + ", " + beats + ")", x.delay(row, beats), was);
                was = beats;
            }
            check.due("a delay of -1", x.delay(row, -1), OUTSIDE);
            check.due("a delay of 21", x.delay(row, 21), OUTSIDE);
            for (int far : FAR) {
                check.due("a delay of " + far, x.delay(row, far), OUTSIDE);
            }
            check.due("the delay is as before", x.told(6 + row), 20);
            check.due("and so is the other row's", x.told(7 - row), 0);
        }
    }

    // "DELAY of a ROW ... OUTSIDE: the ROW 0, 1, too".
    private static void delayOfTheRowsZeroAndOne() {
        WovenRows x = new WovenRows();
        check.due("row -1", x.delay(-1, 3), OUTSIDE);
        check.due("row 2 (home) has no delay", x.delay(2, 3), OUTSIDE);
        for (int far : FAR) {
            check.due("row " + far, x.delay(far, 3), OUTSIDE);
        }
        check.due("row 0 as before", x.told(6), 0);
        check.due("row 1 as before", x.told(7), 0);
    }

    // "DAYS are a text on a PAD (60 SIGNS at most"; "A sign more: how many ... FULL".
    private static void padOfSixtySigns() {
        WovenRows x = new WovenRows();
        for (int i = 1; i <= 60; i++) {
            check.due("sign " + i, x.say('!'), i);
        }
        check.due("a sign on a full pad", x.say('!'), WovenRows.FULL);
        check.due("another", x.say('A'), WovenRows.FULL);
        check.due("signs", x.told(0), 60);
        check.due("what stood there stands there", x.fault(), NONE);
        check.due("bells of a full pad", x.bells(), 60);
        check.due("sixty acts", x.done(), 60);
        check.due("a sign on the empty pad", x.say('!'), 1);
    }

    // "codes 33 to 126"; "say: OUTSIDE", which is ahead of FULL.
    private static void codesThirtyThreeToOneHundredTwentySix() {
        WovenRows x = new WovenRows();
        int said = 0;
        for (int sign = -3; sign <= 130; sign++) {
            if (said == 60) {
                check.due("wipe()", x.wipe(), 60);
                said = 0;
            }
            boolean may = sign >= 33 && sign <= 126;
            said += may ? 1 : 0;
            check.due("say(" + sign + ")", x.say(sign), may ? said : OUTSIDE);
        }
        for (int far : FAR) {
            check.due("say(" + far + ")", x.say(far), OUTSIDE);
        }
        check.due("say('!' + 65536)", x.say('!' + 65536), OUTSIDE);
        check.due("signs", x.told(0), said);
        while (said < 60) {
            said = x.say('z');
        }
        check.due("code 32 on a full pad", x.say(32), OUTSIDE);
        check.due("code 127 on a full pad", x.say(127), OUTSIDE);
        check.due("code 33 on a full pad", x.say(33), WovenRows.FULL);
        check.due("code 126 on a full pad", x.say(126), WovenRows.FULL);
    }

    // "Signs go: how many there were."
    private static void wipedAndSaidAnew() {
        WovenRows x = new WovenRows();
        check.due("wipe() of none", x.wipe(), 0);
        check.due("wipe() of none again", x.wipe(), 0);
        x.say('Z');
        check.due("wipe() of one", x.wipe(), 1);
        check.due("no fault is left", x.fault(), NONE);
        check.due("no sign is left", x.told(0), 0);
        Check.tell(x, "Bd");
        check.due("what is said anew has no fault", x.fault(), NONE);
        check.due("and is done", x.done(), 1);
        check.due("done() leaves nothing to wipe", x.wipe(), 0);
        check.due("B goes", x.told(80), 1);
    }

    private static boolean isLetter(int sign) {
        return "ABCDEFGHIJ".indexOf(sign) >= 0;
    }

    // "THE FAULT: the place (from 0 on) of the first sign that can not stand there".
    private static void faultOfEverySignWhereAnActBegins() {
        for (int sign = 33; sign <= 126; sign++) {
            String one = "" + (char) sign;
            int due = sign == '!' ? NONE : isLetter(sign) ? 1 : 0;
            check.due("fault of '" + one + "'", Check.tell(new WovenRows(), one).fault(), due);
            int later = due == NONE ? NONE : due + 6;
            check.due("fault of 'Ad!JxJ" + one + "'",
                Check.tell(new WovenRows(), "Ad!JxJ" + one).fault(), later);
        }
    }

    // "a MEMBER's letter and d ..., u ..., - ..., or x"; no other sign stands behind a letter.
    private static void faultOfEverySignBehindALetter() {
        for (int sign = 33; sign <= 126; sign++) {
            String two = "J" + (char) sign;
            int due = sign == 'x' ? 2 : "du-".indexOf(sign) >= 0 ? NONE : 1;
            check.due("fault of '" + two + "'", Check.tell(new WovenRows(), two).fault(), due);
        }
    }

    // "or x and another MEMBER's letter"; no other sign stands there.
    private static void faultOfEverySignBehindAnX() {
        for (int sign = 33; sign <= 126; sign++) {
            String three = "Ax" + (char) sign;
            check.due("fault of '" + three + "'",
                Check.tell(new WovenRows(), three).fault(), isLetter(sign) ? NONE : 2);
        }
    }

    // "of the first sign": later ones do not count, and it is none but the first.
    private static void faultIsTheFirst() {
        check.due("the first of all", Check.tell(new WovenRows(), "zzzz").fault(), 0);
        check.due("the second", Check.tell(new WovenRows(), "Azzz").fault(), 1);
        check.due("one act on", Check.tell(new WovenRows(), "AdzB").fault(), 2);
        check.due("ahead of what must come", Check.tell(new WovenRows(), "AdBzCx").fault(), 3);
        String bells = "!!!!!!!!!!!!!!!!!!!!!!!!!!!!!!!!!!!!!!!!!!!!!!!!!!!!!!!!!!!";
        check.due("the last sign of a full pad", Check.tell(new WovenRows(), bells + "z").fault(), 59);
        check.due("a full pad without one", Check.tell(new WovenRows(), bells + "!").fault(), NONE);
    }

    // "the number of signs, if more must come (an empty PAD has none)".
    private static void faultIfMoreMustCome() {
        WovenRows x = new WovenRows();
        check.due("an empty pad", x.fault(), NONE);
        check.due("behind a letter", Check.tell(x, "A").fault(), 1);
        check.due("behind an x", Check.tell(x, "Ax").fault(), 2);
        check.due("behind an act and a letter", Check.tell(x, "!B").fault(), 2);
        check.due("behind acts and an x", Check.tell(x, "Ad!Bx").fault(), 5);
        String bells = "!!!!!!!!!!!!!!!!!!!!!!!!!!!!!!!!!!!!!!!!!!!!!!!!!!!!!!!!!!";
        check.due("on a full pad behind a letter", Check.tell(x, bells + "!A").fault(), 60);
        check.due("on a full pad behind an x", Check.tell(x, bells + "Ax").fault(), 60);
        check.due("it is full", x.say('B'), WovenRows.FULL);
    }
}
