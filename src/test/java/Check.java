import java.util.Map;
import java.util.NoSuchElementException;
import java.util.function.Supplier;

/** Counts the answers that are not due, and tells them. */
final class Check {
    interface Ask {
        int ask(int number);
    }

    interface Use {
        int use(Booker x, int number);
    }

    private String theme = "";
    private int wrong = 0;
    private int asked = 0;

    void theme(String name) {
        theme = name;
    }

    void is(String what, long want, long got) {
        same(what, Long.toString(want), Long.toString(got));
    }

    void same(String what, String want, String got) {
        asked++;
        if (!want.equals(got)) {
            wrong++;
            System.out.println(theme + ": " + what + " answered " + got + ", due is " + want);
        }
    }

    /** A call must throw exactly this and leave all that can be found out as it was, but for the parts that are named. */
    void fails(String what, Class<? extends RuntimeException> want, Booker x, Runnable call, String... but) {
        Map<String, String> before = View.of(x, but);
        same(what, want.getSimpleName(), outcome(call));
        sameView("behind " + what, before, View.of(x, but));
    }

    /** A booking must be refused for this reason, which is all that it changes. */
    void refused(String what, int reason, Booker x, Runnable call) {
        fails(what, UnsupportedOperationException.class, x, call, View.REASON);
        is("the reason of " + what, reason, x.refusal());
    }

    /** The text in the buffer must be refused for this reason, which, with the buffer, is all that it changes. */
    void refusedText(String what, int reason, Booker x) {
        fails(what, UnsupportedOperationException.class, x, x::readBooking, View.TEXT, View.REASON);
        is("the reason of " + what, reason, x.refusal());
    }

    void sameView(String what, Map<String, String> want, Map<String, String> got) {
        same("parts " + what, want.keySet().toString(), got.keySet().toString());
        for (String part : want.keySet()) {
            same(part + " " + what, want.get(part), got.get(part));
        }
    }

    /** The least and the greatest number are taken, and are kept if that can be asked. */
    void takes(String what, int least, int most, Supplier<Booker> made, Use use, Use kept) {
        for (int number : new int[] {least, most}) {
            Booker x = made.get();
            same(what + " " + number, "taken", outcome(() -> use.use(x, number)).equals("") ? "taken" : "not taken");
            is(what + " " + number + " is kept", number, kept.use(x, number));
        }
    }

    /** The numbers beside the least and the greatest one and those far away throw this and change nothing. */
    void refuses(String what, Class<? extends RuntimeException> want, int least, int most, Booker x, Use use) {
        for (int number : new int[] {least - 1, most + 1, Integer.MIN_VALUE, Integer.MAX_VALUE}) {
            fails(what + " " + number, want, x, () -> use.use(x, number));
        }
    }

    /** What a call throws, nothing if it throws nothing. */
    static String outcome(Runnable call) {
        try {
            call.run();
        } catch (RuntimeException e) {
            return e.getClass().getSimpleName();
        }
        return "";
    }

    /** The answers to numbers from 0 upwards, or what is thrown instead. */
    static String list(int from, int to, Ask ask) {
        StringBuilder all = new StringBuilder();
        for (int i = from; i <= to; i++) {
            all.append(i == from ? "" : " ").append(answer(ask, i));
        }
        return all.toString();
    }

    static String answer(Ask ask, int number) {
        try {
            return Integer.toString(ask.ask(number));
        } catch (NoSuchElementException e) {
            return "none";
        } catch (RuntimeException e) {
            return e.getClass().getSimpleName();
        }
    }

    void end() {
        System.out.println(asked + " answers, " + wrong + " wrong");
        if (wrong > 0) {
            System.exit(1);
        }
    }
}
