/**
 * "Calls that are refused answer, the first of these that fits ... They change
 * nothing." Each refused call is made on an object, and each question asked of
 * it; then it answers all as its twin does, of whom nothing was asked.
 */
public final class RefusedTest {
    private static final int UNKNOWN = WovenRows.UNKNOWN;
    private static final int OUTSIDE = WovenRows.OUTSIDE;
    private static final int STATE = WovenRows.STATE;
    private static final int FULL = WovenRows.FULL;
    private static final int NO = WovenRows.NO;
    private static final long LOST = WovenRows.LOST;
    private static final int[] EDGES = {Integer.MIN_VALUE, -1, 0, 1, 2, 9, 16, 60, Integer.MAX_VALUE};
    private static final int[][] TOLD = {{0, 7}, {20, 36}, {40, 49}, {60, 69}, {80, 85}, {90, 95}};
    private static final Check check = new Check();

    private interface Call {
        long on(WovenRows x);
    }

    private interface Made {
        WovenRows anew();
    }

    private final String name;
    private final Made made;
    private final String twin;

    private RefusedTest(String name, Made made) {
        this.name = name;
        this.made = made;
        twin = wholeOf(made.anew());
    }

    public static void main(String[] args) {
        RefusedTest sound = new RefusedTest("of sound days", () -> town("Hd!BxG"));
        RefusedTest fault = new RefusedTest("with a fault", () -> town("Hd!B"));
        RefusedTest barred = new RefusedTest("with an act that can not be", () -> town("Hd!H-H-"));
        RefusedTest full = new RefusedTest("with all full", () -> fullTown());
        RefusedTest anew = new RefusedTest("that is new", () -> new WovenRows());
        for (RefusedTest each : new RefusedTest[] {sound, fault, barred, full, anew}) {
            each.unknown();
            each.outside();
            each.asked();
        }
        fault.refused("judge(0)", NO, x -> x.judge(0));
        fault.refused("judge(1)", NO, x -> x.judge(1));
        fault.no();
        barred.no();
        full.full();
        anew.notKept();
        sound.tooManyClashes();
        firstThatFits();
        anyNumbers();
        check.end();
    }

    private static void fill(WovenRows x, int from) {
        for (int member = 0; member < 10; member++) {
            x.member(member, from + member % 5, (member * 5 + from) % 13);
        }
        for (int cell = 0; cell <= 16; cell += 4) {
            x.wide(cell, 9 + (cell + from) % 7);
        }
        x.delay(0, from);
        x.delay(1, from + 2);
    }

    private static WovenRows town(String days) {
        WovenRows x = new WovenRows();
        fill(x, 3);
        Check.tell(x, "AdBuCd!").done();
        x.rule(2, 0);
        x.image(0);
        x.seen(1, 9);
        x.image(1);
        fill(x, 6);
        Check.tell(x, "DuEdFdGu!!").done();
        x.rule(4, 2);
        x.forget();
        x.seen(5, 15);
        return Check.tell(x, days);
    }

    private static WovenRows fullTown() {
        WovenRows x = town("");
        for (int i = 0; i < 9; i++) {
            x.rule(i, i + 1);
            x.seen(5 + i, 15 + i);
        }
        return Check.tell(x, "HuIuJdI-H-J-!!!!!!!!!!!!!!!!!!!!!!!!!!!!!!!!!!!!!!!!!!!!!!!!!!!!");
    }

    /** All that an object answers, its pad done and its images restored at the end: some 300 calls. */
    private static String wholeOf(WovenRows x) {
        StringBuilder text = new StringBuilder();
        append(text, "fault", x.fault(), x.judge(0), x.judge(1), x.bells());
        for (int i = 0; i <= 5; i++) {
            append(text, "place", x.place(0, i), x.place(1, i));
        }
        for (int member = 0; member <= 9; member++) {
            append(text, "of", x.of(member, 0), x.of(member, 1));
        }
        now(text, x);
        append(text, "year", x.year(77, 40, 0), x.year(77, 40, 1), x.year(77, 40, 2));
        append(text, "start", x.start(0), x.start(1), x.door(3, 0), x.door(3, 1));
        append(text, "chance", x.chance(3, 2, 0), x.chance(3, 2, 1), x.look(0), x.look(1));
        append(text, "done", x.done(), x.told(0), x.told(1), x.told(2), x.told(3), x.wipe());
        for (int n = 0; n <= 1; n++) {
            append(text, "restore", x.restore(n));
            now(text, x);
        }
        return text.toString();
    }

    private static void now(StringBuilder text, WovenRows x) {
        for (int[] range : TOLD) {
            for (int what = range[0]; what <= range[1]; what++) {
                append(text, "told " + what, x.told(what));
            }
        }
        append(text, "meets", x.meets(0), x.meets(1), x.meets(2), x.meets(3), x.runs());
        append(text, "orders", x.orders(0, 0), x.orders(0, 1), x.orders(1, 0), x.orders(1, 1));
        append(text, "order", x.order(0, 0), x.order(0, 1), x.order(1, 0), x.order(1, 1));
        append(text, "grate", x.grate(0), x.grate(1), x.grate(2), x.who(0), x.who(1), x.who(2));
    }

    private static void append(StringBuilder text, String call, long... answers) {
        text.append(call);
        for (long answer : answers) {
            text.append(' ').append(answer);
        }
        text.append('\n');
    }

    private void refused(String call, long due, Call it) {
        WovenRows x = made.anew();
        check.due(call + " on an object " + name, it.on(x), due);
        check.holds(call + " changes nothing of an object " + name, wholeOf(x).equals(twin));
    }

    private void unknown() {
        refused("member(-1, 5, 5)", UNKNOWN, x -> x.member(-1, 5, 5));
        refused("member(10, 5, 5)", UNKNOWN, x -> x.member(10, 5, 5));
        refused("wide(-1, 5)", UNKNOWN, x -> x.wide(-1, 5));
        refused("wide(17, 5)", UNKNOWN, x -> x.wide(17, 5));
        refused("of(-1, 0)", UNKNOWN, x -> x.of(-1, 0));
        refused("of(10, 0)", UNKNOWN, x -> x.of(10, 0));
        refused("rule(-1, 0)", UNKNOWN, x -> x.rule(-1, 0));
        refused("rule(0, 10)", UNKNOWN, x -> x.rule(0, 10));
        refused("rule(3, 3)", UNKNOWN, x -> x.rule(3, 3));
        refused("seen(-1, 5)", UNKNOWN, x -> x.seen(-1, 5));
        refused("seen(17, 5)", UNKNOWN, x -> x.seen(17, 5));
    }

    private void outside() {
        refused("member(2, 0, 5)", OUTSIDE, x -> x.member(2, 0, 5));
        refused("member(2, 16, 5)", OUTSIDE, x -> x.member(2, 16, 5));
        refused("member(2, 9, -1)", OUTSIDE, x -> x.member(2, 9, -1));
        refused("member(2, 9, 13)", OUTSIDE, x -> x.member(2, 9, 13));
        refused("wide(8, 0)", OUTSIDE, x -> x.wide(8, 0));
        refused("wide(8, 31)", OUTSIDE, x -> x.wide(8, 31));
        refused("delay(0, -1)", OUTSIDE, x -> x.delay(0, -1));
        refused("delay(1, 21)", OUTSIDE, x -> x.delay(1, 21));
        refused("delay(2, 1)", OUTSIDE, x -> x.delay(2, 1));
        refused("delay(-1, 1)", OUTSIDE, x -> x.delay(-1, 1));
        refused("say(32)", OUTSIDE, x -> x.say(32));
        refused("say(127)", OUTSIDE, x -> x.say(127));
        refused("judge(2)", OUTSIDE, x -> x.judge(2));
        refused("place(2, 0)", OUTSIDE, x -> x.place(2, 0));
        refused("place(0, 6)", OUTSIDE, x -> x.place(0, 6));
        refused("of(0, 2)", OUTSIDE, x -> x.of(0, 2));
        refused("meets(4)", OUTSIDE, x -> x.meets(4));
        refused("order(2, 0)", OUTSIDE, x -> x.order(2, 0));
        refused("order(0, 2)", OUTSIDE, x -> x.order(0, 2));
        refused("start(2)", OUTSIDE, x -> x.start(2));
        refused("door(31, 0)", OUTSIDE, x -> x.door(31, 0));
        refused("door(3, 2)", OUTSIDE, x -> x.door(3, 2));
        refused("grate(3)", OUTSIDE, x -> x.grate(3));
        refused("orders(2, 0)", OUTSIDE, x -> x.orders(2, 0));
        refused("orders(0, 2)", OUTSIDE, x -> x.orders(0, 2));
        refused("seen(5, -1)", OUTSIDE, x -> x.seen(5, -1));
        refused("seen(5, 61)", OUTSIDE, x -> x.seen(5, 61));
        refused("who(3)", OUTSIDE, x -> x.who(3));
        refused("look(2)", OUTSIDE, x -> x.look(2));
        refused("chance(11, 0, 0)", LOST + OUTSIDE, x -> x.chance(11, 0, 0));
        refused("chance(0, 13, 0)", LOST + OUTSIDE, x -> x.chance(0, 13, 0));
        refused("chance(0, 0, 2)", LOST + OUTSIDE, x -> x.chance(0, 0, 2));
        refused("year(10000, 1, 0)", OUTSIDE, x -> x.year(10000, 1, 0));
        refused("year(0, 0, 0)", OUTSIDE, x -> x.year(0, 0, 0));
        refused("year(0, 100, 0)", OUTSIDE, x -> x.year(0, 100, 0));
        refused("year(0, 1, 3)", OUTSIDE, x -> x.year(0, 1, 3));
        refused("image(2)", OUTSIDE, x -> x.image(2));
        refused("restore(2)", OUTSIDE, x -> x.restore(2));
        refused("told(8)", OUTSIDE, x -> x.told(8));
    }

    private void no() {
        refused("done()", NO, x -> x.done());
        refused("place(0, 0)", NO, x -> x.place(0, 0));
        refused("of(0, 0)", NO, x -> x.of(0, 0));
        refused("bells()", NO, x -> x.bells());
    }

    private void full() {
        refused("say('!')", FULL, x -> x.say('!'));
        refused("rule(0, 1)", FULL, x -> x.rule(0, 1));
        refused("seen(0, 0)", FULL, x -> x.seen(0, 0));
    }

    private void notKept() {
        refused("restore(0)", STATE, x -> x.restore(0));
        refused("restore(1)", STATE, x -> x.restore(1));
        refused("wipe() of nothing", 0, x -> x.wipe());
        refused("unrule() of nothing", 0, x -> x.unrule());
        refused("forget() of nothing", 0, x -> x.forget());
        refused("done() of nothing", 0, x -> x.done());
    }

    private void tooManyClashes() {
        RefusedTest crowd = new RefusedTest("with more than 12 clashes", () -> {
            WovenRows x = town("Hd!");
            for (int member = 0; member < 10; member++) {
                x.member(member, 15, 3);
            }
            Check.tell(x, "HdIuJu").done();
            return x;
        });
        crowd.refused("chance(3, 1, 0)", LOST + STATE, x -> x.chance(3, 1, 0));
        crowd.refused("chance(3, 1, 1)", LOST + STATE, x -> x.chance(3, 1, 1));
        crowd.refused("chance(11, 1, 1)", LOST + OUTSIDE, x -> x.chance(11, 1, 1));
        crowd.asked();
    }

    /** What is asked changes nothing either, whatever it answers. */
    private void asked() {
        Call[] calls = {
            x -> x.fault(), x -> x.judge(0), x -> x.judge(1), x -> x.place(0, 0), x -> x.of(1, 1), x -> x.bells(),
            x -> x.meets(2), x -> x.runs(), x -> x.order(0, 1), x -> x.order(1, 0), x -> x.start(1),
            x -> x.door(5, 1), x -> x.grate(1), x -> x.orders(0, 1), x -> x.orders(1, 0), x -> x.who(1),
            x -> x.look(0), x -> x.chance(4, 2, 0), x -> x.year(5, 99, 1), x -> x.told(3)};
        for (int i = 0; i < calls.length; i++) {
            WovenRows x = made.anew();
            long first = calls[i].on(x);
            check.due("question " + i + " asked again of an object " + name, calls[i].on(x), first);
            check.holds("question " + i + " changes nothing of an object " + name, wholeOf(x).equals(twin));
        }
    }

    // "the first of these that fits: UNKNOWN ..., OUTSIDE ..., NO ..., STATE ..., FULL".
    private static void firstThatFits() {
        WovenRows x = fullTown();
        check.due("UNKNOWN ahead of OUTSIDE: member", x.member(10, 0, 5), UNKNOWN);
        check.due("UNKNOWN ahead of OUTSIDE: member", x.member(-1, 5, 13), UNKNOWN);
        check.due("UNKNOWN ahead of OUTSIDE: wide", x.wide(17, 0), UNKNOWN);
        check.due("UNKNOWN ahead of OUTSIDE: of", x.of(10, 2), UNKNOWN);
        check.due("UNKNOWN ahead of OUTSIDE and FULL: seen", x.seen(17, 61), UNKNOWN);
        check.due("UNKNOWN ahead of FULL: seen", x.seen(17, 60), UNKNOWN);
        check.due("UNKNOWN ahead of FULL: rule", x.rule(4, 4), UNKNOWN);
        check.due("UNKNOWN ahead of FULL: rule", x.rule(4, 10), UNKNOWN);
        check.due("OUTSIDE ahead of FULL: say", x.say(127), OUTSIDE);
        check.due("OUTSIDE ahead of FULL: seen", x.seen(16, 61), OUTSIDE);
        Check.tell(x, "A");
        check.due("UNKNOWN ahead of NO: of", x.of(10, 0), UNKNOWN);
        check.due("UNKNOWN ahead of OUTSIDE and NO: of", x.of(-1, -1), UNKNOWN);
        check.due("OUTSIDE ahead of NO: of", x.of(0, 2), OUTSIDE);
        check.due("OUTSIDE ahead of NO: judge", x.judge(2), OUTSIDE);
        check.due("OUTSIDE ahead of NO: place", x.place(2, 0), OUTSIDE);
        check.due("OUTSIDE ahead of NO: place", x.place(0, 6), OUTSIDE);
        check.due("OUTSIDE ahead of STATE: restore", new WovenRows().restore(2), OUTSIDE);
        check.due("OUTSIDE ahead of NONE: look", new WovenRows().look(2), OUTSIDE);
    }

    /** No call throws, whatever its numbers are and however things stand. */
    private static void anyNumbers() {
        for (int a : EDGES) {
            for (int b : EDGES) {
                for (int c : EDGES) {
                    check.holds("no call throws at " + a + ", " + b + ", " + c, endsFor(a, b, c));
                }
            }
        }
    }

    private static boolean endsFor(int a, int b, int c) {
        try {
            WovenRows x = town("Hd!");
            x.member(a, b, c);
            x.wide(a, b);
            x.delay(a, b);
            x.say(a);
            x.judge(a);
            x.place(a, b);
            x.of(a, b);
            x.meets(a);
            x.order(a, b);
            x.start(a);
            x.door(a, b);
            x.grate(a);
            x.rule(a, b);
            x.orders(a, b);
            x.seen(a, b);
            x.who(a);
            x.look(a);
            x.chance(a, b, c);
            x.year(a, b, c);
            x.image(a);
            x.restore(a);
            x.told(a);
            return wholeOf(x).length() > 0;
        } catch (RuntimeException thrown) {
            System.out.println(thrown);
            return false;
        }
    }
}
