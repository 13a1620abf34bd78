import java.util.Objects;

/** What the tests of the project share: comparing answers, and counting the wrong ones. */
final class Check {
    interface Call {
        void make();
    }

    private static int wrong = 0;
    private static int made = 0;

    private Check() {
    }

    static void same(String what, Object got, Object due) {
        made++;
        if (!Objects.equals(got, due)) {
            wrong++;
            System.out.println(what + ": answered " + got + ", due is " + due);
        }
    }

    /** The state of a visitor, where it is, and its place. */
    static void visitor(String what, Fair fair, int v, int state, int where, int place) {
        same(what + ": state of " + v, fair.stateOf(v), state);
        same(what + ": where " + v + " is", fair.whereIs(v), where);
        same(what + ": place of " + v, fair.placeOf(v), place);
    }

    /** The call throws just this class of exception, and nothing in the fair changes by it. */
    static void fails(String what, Fair fair, Class<?> due, Call call) {
        String before = picture(fair);
        Class<?> got = null;
        try {
            call.make();
        } catch (RuntimeException e) {
            got = e.getClass();
        }
        same(what + " throws", got, due);
        same(what + " leaves the fair", picture(fair), before);
    }

    /** All that the calls of "what there is" tell of a fair; they are made on its twin, to save its own calls. */
    static String picture(Fair seen) {
        Fair fair = seen.again();
        StringBuilder text = new StringBuilder("minute " + fair.minute());
        for (int v = 0; v < 8; v++) {
            text.append("\n v").append(v).append(" state ").append(fair.stateOf(v))
                    .append(" where ").append(fair.whereIs(v)).append(" place ").append(fair.placeOf(v))
                    .append(" turn ").append(fair.turnOf(v)).append(" stamps ").append(fair.stamps(v))
                    .append(" sent");
            for (int p = 0; p < 6; p++) {
                text.append(' ').append(fair.sent(v, p));
            }
        }
        for (int p = 0; p < 6; p++) {
            text.append("\n p").append(p).append(" queue ").append(fair.queue(p))
                    .append(" inside ").append(fair.inside(p)).append(" stock ").append(fair.stock(p))
                    .append(" demand ").append(fair.demand(p));
        }
        return text.toString();
    }

    /** Ends a test: exit code 1 if an answer was wrong. */
    static void end() {
        System.out.println(made + " checks, " + wrong + " wrong");
        if (wrong != 0) {
            System.exit(1);
        }
    }
}
