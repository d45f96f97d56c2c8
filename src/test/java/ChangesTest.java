/**
 * What each call changes, and that it changes nothing else: all that told()
 * tells, and what shows rules, sights and meetings, before and behind the call.
 */
public final class ChangesTest {
    private static final int[][] TOLD = {{0, 7}, {20, 36}, {40, 49}, {60, 69}, {80, 85}, {90, 95}};
    private static final Check check = new Check();

    private interface Call {
        long on(WovenRows x);
    }

    public static void main(String[] args) {
        part1();
        part2();
        part3();
        part4();
        askedAsThingsAreNow();
        check.end();
    }

    /** A, B, C in row 0, D, E, F in row 1, two bells, two rules, a sight, and days on the pad that are not done. */
    private static WovenRows town() {
        WovenRows x = Check.behind("AdBdCdDuEuFu!!");
        x.member(0, 6, 3);
        x.wide(4, 9);
        x.delay(0, 2);
        x.delay(1, 1);
        x.rule(1, 0);
        x.rule(4, 3);
        x.seen(8, 11);
        return Check.tell(x, "GdAxD!");
    }

    private static String[] namesAndAnswers(WovenRows x) {
        StringBuilder text = new StringBuilder();
        for (int[] range : TOLD) {
            for (int what = range[0]; what <= range[1]; what++) {
                text.append("told(").append(what).append(")=").append(x.told(what)).append(' ');
            }
        }
        for (int row = 0; row <= 1; row++) {
            text.append("orders(").append(row).append(")=").append(x.orders(row, 1)).append(' ');
        }
        text.append("who(0)=").append(x.who(0)).append(' ');
        text.append("meets(0)=").append(x.meets(0)).append(' ');
        text.append("meets(1)=").append(x.meets(1)).append(' ');
        text.append("fault()=").append(x.fault()).append(' ');
        return text.toString().split(" ");
    }

    private static void changes(String name, Call call, long answer, String due) {
        changes(name, town(), call, answer, due);
    }

    /** Makes the call, whose answer is due, and holds what is another behind it against what should be. */
    private static void changes(String name, WovenRows x, Call call, long answer, String due) {
        String[] before = namesAndAnswers(x);
        check.due(name, call.on(x), answer);
        String[] behind = namesAndAnswers(x);
        StringBuilder changed = new StringBuilder();
        for (int i = 0; i < before.length; i++) {
            if (!before[i].equals(behind[i])) {
                changed.append(changed.length() == 0 ? "" : " ").append(behind[i]);
            }
        }
        check.holds(name + " changes " + changed + ", due is " + due, changed.toString().equals(due));
    }

    private static void part1() {
        changes("member(0, 7, 4)", x -> x.member(0, 7, 4), 6, "told(40)=7 told(60)=4");
        changes("member(9, 1, 12)", x -> x.member(9, 1, 12), 5, "told(49)=1");
        changes("wide(4, 10)", x -> x.wide(4, 10), 9, "told(24)=10");
        changes("delay(0, 20)", x -> x.delay(0, 20), 2, "told(6)=20 who(0)=3 meets(0)=0");
        changes("delay(1, 20)", x -> x.delay(1, 20), 1, "told(7)=20 who(0)=2 meets(0)=1");
        changes("say('!')", x -> x.say('!'), 7, "told(0)=7");
        changes("say('?')", x -> x.say('?'), 7, "told(0)=7 fault()=6");
        changes("wipe()", x -> x.wipe(), 6, "told(0)=0");
        changes("fault()", x -> x.fault(), WovenRows.NONE, "");
    }

    private static void part2() {
        changes("judge(0)", x -> x.judge(0), WovenRows.NONE, "");
        changes("place(0, 0)", x -> x.place(0, 0), 3, "");
        changes("of(6, 1)", x -> x.of(6, 1), 3, "");
        changes("bells()", x -> x.bells(), 3, "");
        changes("done()", x -> x.done(), 3,
            "told(0)=0 told(1)=4 told(3)=3 told(80)=3 told(83)=6 told(90)=0 orders(0)=1236 orders(1)=45 meets(0)=12");
        changes("done() of what can not be", Check.tell(town(), "GdAxD!Au"), x -> x.done(), WovenRows.NO, "");
        changes("done() with a fault", Check.tell(town(), "GdAxD!A"), x -> x.done(), WovenRows.NO, "");
        changes("done() of nothing", Check.tell(town(), ""), x -> x.done(), 0, "");
    }

    private static void part3() {
        changes("runs()", x -> x.runs(), 21, "");
        changes("order(0, 1)", x -> x.order(0, 1), 12, "");
        changes("start(1)", x -> x.start(1), 0, "");
        changes("door(30, 1)", x -> x.door(30, 1), 0, "");
        changes("grate(1)", x -> x.grate(1), 0, "");
        changes("rule(2, 1)", x -> x.rule(2, 1), 3, "told(4)=3 orders(0)=210");
        changes("rule(0, 1)", x -> x.rule(0, 1), 3, "told(4)=3 orders(0)=-6");
        changes("unrule()", x -> x.unrule(), 2, "told(4)=0 orders(0)=12 orders(1)=345");
    }

    private static void part4() {
        changes("seen(0, 2)", x -> x.seen(0, 2), 2, "told(5)=2 who(0)=0");
        changes("seen(9, 12)", x -> x.seen(9, 12), 2, "told(5)=2 who(0)=2");
        changes("forget()", x -> x.forget(), 1, "told(5)=0 who(0)=60");
        changes("look(0)", x -> x.look(0), 3, "");
        changes("chance(5, 0, 1)", x -> x.chance(5, 0, 1), 1, "");
        changes("year(7, 99, 2)", x -> x.year(7, 99, 2) > 2 ? 1 : 0, 1, "");
        changes("image(0)", x -> x.image(0), 1, "");
        WovenRows x = town();
        x.image(1);
        changes("restore(1) of what is so", x, y -> y.restore(1), 1, "");
        x = town();
        x.image(0);
        x.rule(2, 1);
        x.seen(9, 12);
        x.wide(16, 13);
        Check.tell(x, "AxB!").done();
        x.image(1);
        Check.tell(x, "Ju");
        changes("restore(0)", x, y -> y.restore(0), 1,
            "told(3)=2 told(4)=2 told(5)=1 told(36)=12 told(80)=0 told(81)=1 orders(0)=102 who(0)=5");
        x.wipe();
        changes("restore(1)", x, y -> y.restore(1), 1,
            "told(3)=3 told(4)=3 told(5)=2 told(36)=13 told(80)=1 told(81)=0 orders(0)=210 who(0)=2");
    }

    /** Parts 3 and 4 ask of how things are, whatever days stand on the pad. */
    private static void askedAsThingsAreNow() {
        String[] days = {"GdAxD!", "A-B-C-D-E-F-", "AxF!!!GdHdIdJu", "Gd?", "GdAxD!Au"};
        String due = asked(Check.tell(town(), ""), "");
        for (String text : days) {
            String answers = asked(Check.tell(town(), text), text);
            check.holds("with " + text + " " + answers + ", due is " + due, answers.equals(due));
        }
    }

    private static String asked(WovenRows x, String days) {
        x.judge(0);
        StringBuilder text = new StringBuilder();
        for (int what = 0; what <= 1; what++) {
            text.append(x.meets(what)).append(' ').append(x.meets(2 + what)).append(' ');
            text.append(x.order(0, what)).append(' ').append(x.order(1, what)).append(' ');
            text.append(x.start(what)).append(' ').append(x.door(3, what)).append(' ');
            text.append(x.orders(0, what)).append(' ').append(x.orders(1, what)).append(' ');
            text.append(x.look(what)).append(' ').append(x.chance(3, 1, what)).append(' ');
        }
        for (int what = 0; what <= 2; what++) {
            text.append(x.grate(what)).append(' ').append(x.who(what)).append(' ');
            for (int m = 1; m <= 40; m++) {
                text.append(x.year(2 * m, m, what)).append(' ');
            }
        }
        text.append(x.runs()).append(' ');
        for (int what = 1; what <= 95; what++) {
            text.append(x.told(what)).append(' ');
        }
        check.due("signs behind the questions", x.told(0), days.length());
        return text.toString();
    }
}
