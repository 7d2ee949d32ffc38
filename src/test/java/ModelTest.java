/** Long runs of calls, made by a row of numbers that is always the same, answered as the model answers them. */
public final class ModelTest {
    private static final int RUNS = 400;
    private static final int CROWD_CALLS = 24;
    /** More than the calls that one round makes. */
    private static final int ROUND = 60;

    private static final Check check = new Check();
    private static long seed;
    private static final int[] bookings = new int[3];
    private static final int[] refusals = new int[6];

    public static void main(String[] args) {
        int runs = args.length > 0 ? Integer.parseInt(args[0]) : RUNS;
        int start = args.length > 1 ? Integer.parseInt(args[1]) : 0;
        for (int run = start; run < start + runs; run++) {
            seed = 1234567L + 7919L * run;
            check.theme("run " + run);
            run();
            check.theme("crowd " + run);
            crowd();
        }
        check.theme("what the runs met");
        System.out.println("bookings by moves " + java.util.Arrays.toString(bookings)
                + ", refusals by reason " + java.util.Arrays.toString(refusals));
        for (int moves = 0; moves <= 2; moves++) {
            check.is("bookings with " + moves + " moves", 1, bookings[moves] >= 100 ? 1 : 0);
        }
        for (int reason = 1; reason <= 5; reason++) {
            check.is("refusals for " + reason, 1, refusals[reason] >= 20 ? 1 : 0);
        }
        check.end();
    }

    private static int next(int bound) {
        seed = seed * 6364136223846793005L + 1442695040888963407L;
        return (int) ((seed >>> 33) % bound);
    }

    private static int from(int least, int most) {
        return least + next(most - least + 1);
    }

    /** Mostly a number of the range, now and then one beside it or far away. */
    private static int near(int least, int most) {
        int way = next(40);
        if (way == 0) {
            return least - 1;
        }
        if (way == 1) {
            return most + 1;
        }
        if (way == 2) {
            return next(2) == 0 ? Integer.MIN_VALUE : Integer.MAX_VALUE;
        }
        return from(least, most);
    }

    private static void run() {
        Booker x = new Booker();
        Model m = new Model();
        int span = from(4, 30);
        int most = from(2, 8);
        for (int i = 0; i < from(2, 5); i++) {
            pitch(x, m);
        }
        while (x.callsMade() < Booker.MOST_CALLS - ROUND) {
            call(x, m, from(0, 99), span, most);
        }
        while (x.callsMade() < Booker.MOST_CALLS) {
            ask(x, m, from(0, 49));
        }
    }

    /** All pitches and few nights, and nothing asked but at the end, so that many parties find room by moves alone. */
    private static void crowd() {
        Booker x = new Booker();
        Model m = new Model();
        int span = from(5, 14);
        int most = from(2, 6);
        for (int i = 0; i < 6; i++) {
            pitch(x, m);
        }
        for (int i = 0; i < CROWD_CALLS; i++) {
            if (next(4) == 0) {
                change(x, m, from(2, 16));
            } else {
                book(x, m, span, most);
            }
            latest(x, m);
        }
        for (int party = 0; party < 12; party++) {
            for (int what = 4; what < 10; what++) {
                int[] n = {party, what};
                compare("party", n, () -> x.party(n[0], n[1]), () -> m.party(n[0], n[1]));
            }
        }
    }

    private static void pitch(Booker x, Model m) {
        int[] n = {from(0, 2), from(2, 6), from(2, 6), from(-1, 1)};
        compare("addPitch", n, () -> x.addPitch(n[0], n[1], n[2], n[3]), () -> m.addPitch(n[0], n[1], n[2], n[3]));
    }

    private static void call(Booker x, Model m, int way, int span, int most) {
        if (way < 50) {
            ask(x, m, way);
        } else if (way < 70) {
            change(x, m, way - 50);
            latest(x, m);
        } else if (way < 95) {
            book(x, m, span, most);
            latest(x, m);
        } else {
            text(x, m, span);
            latest(x, m);
        }
    }

    private static void latest(Booker x, Model m) {
        check.is("fault position", m.fault, x.faultPosition());
        check.same("reason", m.reason == 0 ? "none" : Integer.toString(m.reason), Check.answer(n -> x.refusal(), 0));
        StringBuilder due = new StringBuilder();
        for (int[] move : m.latest) {
            due.append(due.length() == 0 ? "" : ", ");
            due.append(move[0]).append(' ').append(move[1]).append(' ').append(move[2]);
        }
        check.same("latest moves", due.toString(), Sites.plan(x));
    }

    private static void book(Booker x, Model m, int span, int most) {
        int first = Math.min(x.tonight() + next(span), 59);
        int[] n = {near(0, 1), near(1, 4), near(1, 4), next(2) == 0 ? 0 : near(0, 10), first, near(1, most)};
        if (next(25) == 0) {
            n[4] = near(0, 59);
        }
        booked(x, m, n, compare("book", n, () -> x.book(n[0], n[1], n[2], n[3], n[4], n[5]),
                () -> m.book(n[0], n[1], n[2], n[3], n[4], n[5])));
    }

    private static void booked(Booker x, Model m, int[] n, String answer) {
        if (answer.equals("UnsupportedOperationException")) {
            refusals[x.refusal()]++;
        } else if (!answer.endsWith("Exception")) {
            bookings[x.moves()]++;
        }
    }

    private static void change(Booker x, Model m, int way) {
        int[] n = {near(0, 11), near(0, 5), near(0, 40), near(0, 59), near(0, 59), near(1, 5)};
        switch (way) {
            case 0:
                pitch(x, m);
                return;
            case 1:
                compare("addPitch", n, () -> x.addPitch(n[1] - 1, n[0], n[2] / 3, n[5] - 2),
                        () -> m.addPitch(n[1] - 1, n[0], n[2] / 3, n[5] - 2));
                return;
            case 2:
            case 3:
                compare("setLimit", n, () -> x.setLimit(n[1] / 2, n[2]), () -> m.setLimit(n[1] / 2, n[2]));
                return;
            case 4:
                compare("setRate", n, () -> x.setRate(n[1], n[2] + n[3]), () -> m.setRate(n[1], n[2] + n[3]));
                return;
            case 5:
                compare("setGap", n, () -> x.setGap(n[1]), () -> m.setGap(n[1]));
                return;
            case 6:
                compare("addSeason", n, () -> x.addSeason(n[3], n[4], n[5]), () -> m.addSeason(n[3], n[4], n[5]));
                return;
            case 7:
            case 8:
                compare("dropSeason", n, () -> x.dropSeason(n[5] - 1), () -> m.dropSeason(n[5] - 1));
                return;
            case 9:
            case 10:
                compare("move", n, () -> x.move(n[0], n[1]), () -> m.move(n[0], n[1]));
                return;
            case 11:
            case 12:
                compare("cancel", n, () -> x.cancel(n[0]), () -> m.cancel(n[0]));
                return;
            case 13:
                compare("advance", n, () -> x.advance(n[1] - 1), () -> m.advance(n[1] - 1));
                return;
            case 14:
                compare("save", n, () -> {
                    x.save();
                    return 0;
                }, () -> {
                    m.save();
                    return 0;
                });
                return;
            case 15:
                compare("restore", n, () -> {
                    x.restore();
                    return 0;
                }, () -> {
                    m.restore();
                    return 0;
                });
                return;
            default:
                compare("undo", n, () -> x.undo(), () -> m.undo());
        }
    }

    private static void text(Booker x, Model m, int span) {
        int first = Math.min(x.tonight() + next(span), 59);
        String text = "tcm".charAt(next(3)) + "" + near(1, 4) + "x" + near(1, 4) + "@" + first + "+" + from(1, 6);
        if (next(2) == 0) {
            text += "p" + near(0, 16);
        }
        if (next(3) == 0) {
            int at = next(text.length());
            text = text.substring(0, at) + "0123x@+pt".charAt(next(9)) + text.substring(at + next(2));
        }
        if (next(6) == 0) {
            text = text.substring(0, next(text.length()));
        }
        for (char c : text.toCharArray()) {
            compare("append", new int[] {c}, () -> {
                x.append(c);
                return 0;
            }, () -> {
                m.append(c);
                return 0;
            });
        }
        int[] none = {};
        booked(x, m, none, compare("readBooking of " + text, none, () -> x.readBooking(), () -> m.readBooking()));
    }

    private static void ask(Booker x, Model m, int way) {
        int[] n = {near(0, 11), near(0, 5), near(0, 59), near(0, 9), near(1, 14), near(0, 2)};
        boolean isLast = next(2) == 0;
        switch (way % 18) {
            case 0:
                compare("pitch", n, () -> x.pitch(n[1], n[3]), () -> m.pitch(n[1], n[3]));
                return;
            case 1:
                compare("season", n, () -> x.season(n[1], n[5]), () -> m.season(n[1], n[5]));
                return;
            case 2:
                compare("leastStay", n, () -> x.leastStay(n[2], n[4]), () -> m.leastStay(n[2], n[4]));
                return;
            case 3:
            case 4:
                compare("party", n, () -> x.party(n[0], n[3]), () -> m.party(n[0], n[3]));
                return;
            case 5:
            case 6:
            case 7:
                compare("obstacle", n, () -> x.obstacle(n[0], n[1]), () -> m.obstacle(n[0], n[1]));
                return;
            case 8:
                compare("occupant", n, () -> x.occupant(n[1], n[2]), () -> m.occupant(n[1], n[2]));
                return;
            case 9:
                compare("busyNight", n, () -> x.busyNight(n[1], n[3]), () -> m.busyNight(n[1], n[3]));
                return;
            case 10:
                compare("firstFree", n, () -> x.firstFree(n[1], n[2], n[4]), () -> m.firstFree(n[1], n[2], n[4]));
                return;
            case 11:
                compare("power", n, () -> x.power(n[5], n[2]), () -> m.power(n[5], n[2]));
                return;
            case 12:
                compare("peak", n, () -> x.peak(n[5]), () -> m.peak(n[5]));
                return;
            case 13:
                compare("gap", n, () -> x.gap(n[1], n[5], isLast), () -> m.gap(n[1], n[5], isLast));
                return;
            case 14:
                compare("account", n, () -> x.account(n[3]), () -> m.account(n[3]));
                return;
            case 15:
                compare("share", n, () -> (int) (x.share() * 1e9), () -> (int) (m.share() * 1e9));
                return;
            case 16:
                compare("moveOf", n, () -> x.moveOf(n[1], n[5]), () -> m.moveOf(n[1], n[5]));
                return;
            default:
                compare("tonight", n, () -> x.tonight(), () -> m.tonight());
        }
    }

    interface Call {
        int call();
    }

    private static String compare(String what, int[] numbers, Call program, Call model) {
        String got;
        try {
            got = Integer.toString(program.call());
        } catch (RuntimeException e) {
            got = e.getClass().getSimpleName();
        }
        String due;
        try {
            due = Integer.toString(model.call());
        } catch (Model.Thrown e) {
            due = e.name;
        }
        check.same(what + " with " + java.util.Arrays.toString(numbers), due, got);
        return due;
    }
}
