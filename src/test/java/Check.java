/** Counts the answers that are not as due, and ends a test with exit code 1 if there was one. */
final class Check {
    private int wrong = 0;
    private int asked = 0;

    void due(String call, long got, long want) {
        asked++;
        if (got != want) {
            wrong++;
            if (wrong <= 40) {
                System.out.println(call + " answered " + got + ", due is " + want);
            }
        }
    }

    void holds(String what, boolean so) {
        asked++;
        if (!so) {
            wrong++;
            System.out.println("not so: " + what);
        }
    }

    boolean allDue() {
        return wrong == 0;
    }

    void end() {
        if (wrong != 0) {
            System.out.println(wrong + " of " + asked + " answers are not as due");
            System.exit(1);
        }
        System.out.println("all " + asked + " answers are as due");
    }

    /** Wipes the pad and says the text, sign by sign. */
    static WovenRows tell(WovenRows x, String days) {
        x.wipe();
        for (int i = 0; i < days.length(); i++) {
            x.say(days.charAt(i));
        }
        return x;
    }

    /** A new object in which these days are done. */
    static WovenRows behind(String days) {
        WovenRows x = tell(new WovenRows(), days);
        x.done();
        return x;
    }

    /** Every number that told() tells of an object, in one text. */
    static String stateOf(WovenRows x) {
        StringBuilder text = new StringBuilder();
        for (int what = 0; what < 100; what++) {
            text.append(what).append('=').append(x.told(what)).append(' ');
        }
        return text.toString();
    }
}
