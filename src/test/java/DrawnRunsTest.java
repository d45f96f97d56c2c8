import java.util.Random;

/** Long drawn runs of calls, each answer held against that of the Model; the draws are the same each time. */
public final class DrawnRunsTest {
    private static final Check check = new Check();
    private static final int RUNS = 1200, CALLS = 512;

    private final WovenRows x = new WovenRows();
    private final Model model = new Model();
    private final Random draw;
    private final String run;
    private int calls = 0;
    // Who it was, for most sights that are drawn in this run.
    private final int row, i, late;

    private DrawnRunsTest(int seed) {
        draw = new Random(seed);
        run = "run " + seed + ": ";
        row = draw.nextInt(2);
        i = draw.nextInt(3);
        late = draw.nextInt(10);
    }

    public static void main(String[] args) {
        for (int seed = 0; seed < RUNS && check.allDue(); seed++) {
            new DrawnRunsTest(seed).go();
        }
        check.end();
    }

    private void go() {
        while (calls < CALLS - 61) {
            int turn = draw.nextInt(30);
            if (turn < 1 || calls == 0) {
                tellDays();
            } else if (turn < 9) {
                change();
            } else {
                ask();
            }
        }
        for (int what = -1; what <= 100 && calls < CALLS; what++) {
            due("told(" + what + ")", x.told(what), model.told(what));
        }
    }

    private void due(String call, long got, long want) {
        calls++;
        check.due(run + call + " as call " + calls, got, want);
    }

    /** A number of the range, and now and then one outside or at its edge. */
    private int near(int low, int high) {
        int turn = draw.nextInt(40);
        if (turn == 0) return low - 1 - draw.nextInt(3);
        if (turn == 1) return high + 1 + draw.nextInt(3);
        if (turn == 2) return low;
        if (turn == 3) return high;
        if (turn == 4 && draw.nextInt(10) == 0) return draw.nextInt();
        return low + draw.nextInt(high - low + 1);
    }

    private void tellDays() {
        if (draw.nextInt(12) != 0) {
            due("wipe()", x.wipe(), model.wipe());
        }
        StringBuilder days = new StringBuilder();
        int acts = 1 + draw.nextInt(draw.nextInt(4) == 0 ? 20 : 5);
        boolean sound = draw.nextInt(4) != 0;
        for (int i = 0; i < acts; i++) {
            String act = drawnAct();
            for (int tries = 0; sound && tries < 6 && !model.couldDo(days + act); tries++) {
                act = drawnAct();
            }
            days.append(act);
        }
        if (draw.nextInt(8) == 0) {
            days.insert(draw.nextInt(days.length() + 1), (char) (33 + draw.nextInt(94)));
        }
        for (int i = 0; i < days.length() && calls < CALLS - 20; i++) {
            int sign = draw.nextInt(300) == 0 ? draw.nextInt(200) - 30 : days.charAt(i);
            due("say(" + sign + ")", x.say(sign), model.say(sign));
        }
        due("fault()", x.fault(), model.fault());
        due("judge(0)", x.judge(0), model.judge(0));
        due("judge(1)", x.judge(1), model.judge(1));
        if (draw.nextInt(5) == 0) {
            askBehind();
        } else {
            due("done()", x.done(), model.done());
        }
    }

    /** All that can be asked of what is behind the days, before they are done. */
    private void askBehind() {
        for (int row = 0; row < 2; row++) {
            for (int i = 0; i < 6; i++) {
                due("place(" + row + ", " + i + ")", x.place(row, i), model.place(row, i));
            }
        }
        for (int member = 0; member < 10; member++) {
            due("of(" + member + ", 0)", x.of(member, 0), model.of(member, 0));
            due("of(" + member + ", 1)", x.of(member, 1), model.of(member, 1));
        }
        due("bells()", x.bells(), model.bells());
        due("done()", x.done(), model.done());
    }

    private String drawnAct() {
        String name = "" + (char) ('A' + draw.nextInt(10));
        switch (draw.nextInt(9)) {
            case 0:
            case 1:
                return name + "d";
            case 2:
            case 3:
                return name + "u";
            case 4:
                return name + "-";
            case 5:
                return draw.nextInt(4) == 0 ? "!!!!!!!!!!!!!!!!!!!!!!!!" : "!";
            default:
                return name + "x" + (char) ('A' + draw.nextInt(10));
        }
    }

    private void change() {
        int a = near(0, 9), b, c;
        switch (draw.nextInt(13)) {
            case 12:
            case 0:
            case 1:
            case 2:
                b = draw.nextBoolean() ? near(1, 15) : near(5, 8);
                c = near(0, 12);
                due("member(" + a + ", " + b + ", " + c + ")", x.member(a, b, c), model.member(a, b, c));
                break;
            case 3:
            case 4:
                b = near(0, 16);
                c = near(1, 30);
                due("wide(" + b + ", " + c + ")", x.wide(b, c), model.wide(b, c));
                break;
            case 5:
            case 6:
                b = near(0, 1);
                c = draw.nextBoolean() ? near(0, 4) : near(0, 20);
                due("delay(" + b + ", " + c + ")", x.delay(b, c), model.delay(b, c));
                break;
            case 7:
            case 8:
                b = near(0, 9);
                due("rule(" + a + ", " + b + ")", x.rule(a, b), model.rule(a, b));
                break;
            case 9:
                c = draw.nextBoolean() ? near(0, 40) : near(0, 60);
                b = model.cellAt(row, i, late, c);
                if (b < 0 || draw.nextInt(6) == 0) {
                    b = near(0, 16);
                }
                due("seen(" + b + ", " + c + ")", x.seen(b, c), model.seen(b, c));
                break;
            case 10:
                if (draw.nextInt(3) != 0) {
                    break;
                }
                if (draw.nextBoolean()) {
                    due("unrule()", x.unrule(), model.unrule());
                } else {
                    due("forget()", x.forget(), model.forget());
                }
                break;
            default:
                b = near(0, 1);
                if (draw.nextBoolean()) {
                    due("image(" + b + ")", x.image(b), model.image(b));
                } else {
                    due("restore(" + b + ")", x.restore(b), model.restore(b));
                }
                break;
        }
    }

    private void ask() {
        int a, b, c;
        switch (draw.nextInt(16)) {
            case 0:
                a = near(0, 3);
                due("meets(" + a + ")", x.meets(a), model.meets(a));
                break;
            case 1:
                due("runs()", x.runs(), model.runs());
                break;
            case 2:
                a = near(0, 1);
                b = near(0, 1);
                if (draw.nextInt(8) == 0) {
                    due("order(" + a + ", " + b + ")", x.order(a, b), model.order(a, b));
                }
                break;
            case 3:
                a = near(0, 1);
                due("start(" + a + ")", x.start(a), model.start(a));
                break;
            case 4:
                a = near(0, 30);
                b = near(0, 1);
                due("door(" + a + ", " + b + ")", x.door(a, b), model.door(a, b));
                break;
            case 5:
                a = near(0, 2);
                due("grate(" + a + ")", x.grate(a), model.grate(a));
                break;
            case 6:
                a = near(0, 1);
                b = near(0, 1);
                due("orders(" + a + ", " + b + ")", x.orders(a, b), model.orders(a, b));
                break;
            case 7:
                a = near(0, 2);
                due("who(" + a + ")", x.who(a), model.who(a));
                break;
            case 8:
                a = near(0, 1);
                due("look(" + a + ")", x.look(a), model.look(a));
                break;
            case 9:
                a = near(0, 10);
                b = draw.nextBoolean() ? near(0, 4) : near(0, 12);
                c = near(0, 1);
                due("chance(" + a + ", " + b + ", " + c + ")", x.chance(a, b, c), model.chance(a, b, c));
                break;
            case 10:
                a = near(0, 9999);
                b = near(1, 99);
                c = near(0, 2);
                due("year(" + a + ", " + b + ", " + c + ")", x.year(a, b, c), model.year(a, b, c));
                break;
            case 11:
                a = near(0, 1);
                b = near(0, 5);
                due("place(" + a + ", " + b + ")", x.place(a, b), model.place(a, b));
                break;
            case 12:
                a = near(0, 9);
                b = near(0, 1);
                due("of(" + a + ", " + b + ")", x.of(a, b), model.of(a, b));
                break;
            case 13:
                due("bells()", x.bells(), model.bells());
                break;
            case 14:
                a = near(0, 1);
                due("judge(" + a + ")", x.judge(a), model.judge(a));
                break;
            default:
                a = near(0, 100);
                due("told(" + a + ")", x.told(a), model.told(a));
                break;
        }
    }
}
