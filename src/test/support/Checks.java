import java.util.ArrayList;
import java.util.List;
import java.util.NoSuchElementException;

/** What the tests share: checks of answers, texts on the tape, and all that can be asked of a cabinet. */
abstract class Checks {
    static final int MANY = Integer.MAX_VALUE;
    static final int FEW = Integer.MIN_VALUE;
    static final int NO_STATUS = -1;
    static final int STATUS_TEXTS = 9;
    static final int STATUS_ACTS = 10;
    static final int STATUS_SEEN = 11;

    static final String FOUR =
            "head 30 2 3;marbled 20 1 5 6;head 50 9 4;head 10 0 0;heat 6 3;";
    /** Behind 3 days head 0 falls to the right and takes 1 and 2 with it; 3 is left with lean 8. */
    static final String CHAIN =
            "head 90 0 1;head 90 1 2;head 90 2 4;head 90 3 8;melts 0;"
            + "leans (almond=0)*3+(almond=1 or almond=2)*(2+(day=0))+(almond=3)*2;";
    /** As CHAIN, from the right to the left. */
    static final String CHAIN_LEFT =
            "head 90 3 8;head 90 2 4;head 90 1 2;head 90 0 1;melts 0;"
            + "leans 0-((almond=0)*3+(almond=1 or almond=2)*(2+(day=0))+(almond=3)*2);";

    interface Call {
        int run();
    }

    /** A call with one number left open. */
    interface CallOf {
        int run(int number);
    }

    interface Maker {
        AlmondCabinet make();
    }

    interface Deed {
        void doTo(AlmondCabinet x);
    }

    private static int checked = 0;
    private static int wrong = 0;

    static void due(String what, int got, int want) {
        checked++;
        if (got != want) {
            complain(what + " answered " + got + ", due is " + want);
        }
    }

    static void due(String what, boolean got, boolean want) {
        due(what, got ? 1 : 0, want ? 1 : 0);
    }

    static void noElement(String what, Call call) {
        checked++;
        try {
            int got = call.run();
            complain(what + " answered " + got + ", due is NoSuchElementException");
        } catch (NoSuchElementException e) {
            return;
        } catch (RuntimeException e) {
            complain(what + " threw " + e + ", due is NoSuchElementException");
        }
    }

    static void badArgument(String what, Call call) {
        checked++;
        try {
            int got = call.run();
            complain(what + " answered " + got + ", due is IllegalArgumentException");
        } catch (IllegalArgumentException e) {
            return;
        } catch (RuntimeException e) {
            complain(what + " threw " + e + ", due is IllegalArgumentException");
        }
    }

    /** From the least to the most a call is taken; one below, one above and far off it has no such element. */
    static void elements(String what, int least, int most, CallOf call) {
        taken(what, least, most, call);
        for (int number : new int[] {least - 1, most + 1, FEW, MANY}) {
            noElement(what + " by " + number, () -> call.run(number));
        }
    }

    /** From the least to the most a call is taken; one below, one above and far off it is a bad argument. */
    static void arguments(String what, int least, int most, CallOf call) {
        taken(what, least, most, call);
        for (int number : new int[] {least - 1, most + 1, FEW, MANY}) {
            badArgument(what + " by " + number, () -> call.run(number));
        }
    }

    private static void taken(String what, int least, int most, CallOf call) {
        for (int number = least; number <= most; number++) {
            checked++;
            try {
                call.run(number);
            } catch (RuntimeException e) {
                complain(what + " by " + number + " threw " + e);
            }
        }
    }

    private static void complain(String text) {
        wrong++;
        System.out.println(text);
    }

    static void end(String name) {
        System.out.println(name + ": " + (checked - wrong) + " passed, " + wrong + " failed");
        System.exit(wrong == 0 && checked > 0 ? 0 : 1);
    }

    // ---- texts

    static int feedText(AlmondCabinet x, String text) {
        int many = 0;
        for (int at = 0; at < text.length(); at += 20) {
            int[] five = new int[5];
            for (int k = 0; k < 20; k++) {
                int sign = at + k < text.length() ? text.charAt(at + k) : ' ';
                five[k / 4] = five[k / 4] << 8 | sign;
            }
            many = x.feed(five[0], five[1], five[2], five[3], five[4]);
        }
        return many;
    }

    static AlmondCabinet of(String text) {
        AlmondCabinet x = new AlmondCabinet();
        feedText(x, text);
        due("cabinet of " + text, x.cabinet(text.length()), 0);
        return x;
    }

    static AlmondCabinet of(String text, int days) {
        AlmondCabinet x = of(text);
        for (int left = days; left > 0; left -= 20) {
            x.days(Math.min(20, left));
        }
        due("day of " + text, x.count(1), days);
        return x;
    }

    /** Heads for no question who lean so far behind three days; whoever comes to 9 or -9 falls then. */
    static AlmondCabinet leaning(int... leans) {
        return leaning(new int[leans.length], leans);
    }

    static AlmondCabinet leaning(int[] opinions, int... leans) {
        StringBuilder text = new StringBuilder();
        StringBuilder rule = new StringBuilder("melts 0;leans 0");
        for (int head = 0; head < leans.length; head++) {
            text.append("head 99 ").append(head).append(' ').append(opinions[head]).append(';');
            int left = leans[head];
            for (int day = 0; day < 3; day++) {
                int sway = Math.max(-3, Math.min(3, left));
                left -= sway;
                if (sway != 0) {
                    rule.append(sway < 0 ? '-' : '+').append("(almond=").append(head).append(" and day=").append(day)
                            .append(")*").append(Math.abs(sway));
                }
            }
        }
        return of(text.append(rule).append(';').toString(), 3);
    }

    static void fault(String text, int fault, int place) {
        AlmondCabinet x = new AlmondCabinet();
        feedText(x, text);
        due("cabinet of " + text, x.cabinet(text.length()), fault);
        due("fault of " + text, x.fault(), place);
        due("refused texts of " + text, x.count(STATUS_TEXTS), fault == 0 ? 0 : 1);
    }

    static void sound(String text) {
        fault(text, 0, AlmondCabinet.NONE);
    }

    // ---- what a call leaves as it was

    /** A cabinet with acts, something seen, an image of an earlier day, refused calls, a fault and some tape. */
    static AlmondCabinet busy() {
        AlmondCabinet x = of("head 60 2 3;marbled 40 1 5 6;head 4 0 4;heat 6 3;");
        x.days(0);
        x.days(1);
        x.see(0, 3, true);
        x.image();
        x.see(0, 21, true);
        x.change(0, 2);
        feedText(x, "x");
        x.cabinet(1);
        x.turn(1, 4);
        x.see(4, 0, false);
        feedText(x, "head 1 2 3;");
        return x;
    }

    /** All answers that tell the state, now, behind each undo, and behind a restore. */
    private static List<Integer> allOf(AlmondCabinet x, int but) {
        List<Integer> all = new ArrayList<>();
        tell(x, but, all);
        for (int left = x.count(6); left > 0; left--) {
            all.add(x.undo());
            tell(x, but, all);
        }
        boolean restored = x.restore();
        all.add(restored ? 1 : 0);
        tell(x, restored ? NO_STATUS : but, all);
        return all;
    }

    private static void tell(AlmondCabinet x, int but, List<Integer> all) {
        for (int what = 0; what <= 11; what++) {
            all.add(what == but ? 0 : x.count(what));
        }
        all.add(x.fault());
        for (int head = 0; head < x.count(0); head++) {
            for (int what = 0; what <= 6; what++) {
                all.add(x.head(head, what));
            }
            all.add(x.seat(head));
        }
        for (int what = 0; what <= 2; what++) {
            all.add(x.leant(what));
        }
    }

    /**
     * Behind the call all is as it is without it, down to the oldest act and the image, but for
     * one number of STATUS, which is one more (none, if NO_STATUS).
     */
    static void leavesAll(String what, Maker maker, int status, Deed deed) {
        AlmondCabinet with = maker.make();
        AlmondCabinet without = maker.make();
        try {
            deed.doTo(with);
        } catch (NoSuchElementException | IllegalArgumentException e) {
            due(what + " throws and counts", status, NO_STATUS);
        }
        if (status != NO_STATUS) {
            due(what + ", count(" + status + ")", with.count(status), without.count(status) + 1);
        }
        checked++;
        if (!allOf(with, status).equals(allOf(without, status))) {
            complain(what + " does not leave all as it was");
        }
    }
}
