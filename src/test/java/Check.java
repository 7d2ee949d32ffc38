import java.util.NoSuchElementException;

/** Counts the answers that are not due, and tells them. */
final class Check {
    interface Call {
        void run();
    }

    interface Ask {
        int ask(int number);
    }

    private String theme = "";
    private int wrong = 0;
    private int asked = 0;

    void theme(String name) {
        theme = name;
    }

    void is(String what, long want, long got) {
        same(what, Long.toString(want), Long.toString(got));
    }

    void same(String what, String want, String got) {
        asked++;
        if (!want.equals(got)) {
            wrong++;
            System.out.println(theme + ": " + what + " answered " + got + ", due is " + want);
        }
    }

    /** A call must throw exactly this, and leave all that can be asked as it was. */
    void fails(String what, Class<? extends RuntimeException> want, CampsiteBooker x, Call call) {
        String before = state(x);
        same(what, want.getSimpleName(), outcome(call));
        same("the state behind " + what, before, state(x));
    }

    void fails(String what, Class<? extends RuntimeException> want, Call call) {
        same(what, want.getSimpleName(), outcome(call));
    }

    private static String outcome(Call call) {
        try {
            call.run();
        } catch (RuntimeException e) {
            return e.getClass().getSimpleName();
        }
        return "nothing thrown";
    }

    /** The answers to numbers from 0 upwards, or what is thrown instead. */
    static String list(int from, int to, Ask ask) {
        StringBuilder all = new StringBuilder();
        for (int i = from; i <= to; i++) {
            all.append(i == from ? "" : " ").append(answer(ask, i));
        }
        return all.toString();
    }

    static String answer(Ask ask, int number) {
        try {
            return Integer.toString(ask.ask(number));
        } catch (NoSuchElementException e) {
            return "none";
        } catch (RuntimeException e) {
            return e.getClass().getSimpleName();
        }
    }

    /** All that can be asked of a booker without changing it. */
    static String state(CampsiteBooker x) {
        StringBuilder all = new StringBuilder();
        int pitches = x.account(0);
        int parties = x.account(1) + x.account(2);
        all.append("tonight ").append(x.tonight()).append(" accounts ").append(list(0, 7, x::account));
        for (int i = 0; i < pitches; i++) {
            int p = i;
            all.append("\npitch ").append(list(0, 6, what -> x.pitch(p, what)));
            all.append(" busy ").append(list(0, x.pitch(p, 5), n -> x.busyNight(p, n)));
            all.append(" gaps ").append(list(0, x.pitch(p, 6), g -> x.gap(p, g, false)));
            all.append(" to ").append(list(0, x.pitch(p, 6), g -> x.gap(p, g, true)));
            all.append(" free ").append(list(1, 14, n -> x.firstFree(p, 0, n)));
            all.append(" who ").append(list(0, 59, n -> x.occupant(p, n)));
            all.append(" obstacles ").append(list(0, parties - 1, q -> x.obstacle(q, p)));
        }
        for (int i = 0; i < parties; i++) {
            int p = i;
            all.append("\nparty ").append(list(0, 9, what -> x.party(p, what)));
        }
        for (int i = 0; i < x.account(7); i++) {
            int s = i;
            all.append("\nseason ").append(list(0, 2, what -> x.season(s, what)));
        }
        for (int i = 0; i < 3; i++) {
            int c = i;
            all.append("\ncircuit ").append(list(0, 59, n -> x.power(c, n)));
            all.append(" peak ").append(answer(x::peak, c));
        }
        all.append("\nstays ").append(list(0, 59, n -> x.leastStay(n, 1)));
        return all.append("\nlatest ").append(latest(x)).toString();
    }

    /** What undo and restore leave as it is. */
    static String latest(CampsiteBooker x) {
        StringBuilder all = new StringBuilder();
        all.append("fault ").append(x.faultPosition());
        all.append(" reason ").append(answer(n -> x.refusal(), 0));
        all.append(" moves ").append(x.moves());
        for (int i = 0; i < x.moves(); i++) {
            int m = i;
            all.append(" (").append(list(0, 2, part -> x.moveOf(m, part))).append(")");
        }
        return all.toString();
    }

    void end() {
        System.out.println(asked + " answers, " + wrong + " wrong");
        if (wrong > 0) {
            System.exit(1);
        }
    }
}
