import java.util.LinkedHashMap;
import java.util.List;
import java.util.Map;

/** All that can be found out about a booker, in parts that have names; copies are asked, so that it gets no call more. */
final class View {
    static final String TONIGHT = "tonight";
    static final String ACCOUNTS = "accounts";
    static final String PITCHES = "pitches";
    static final String PARTIES = "parties";
    static final String SEASONS = "seasons";
    static final String OBSTACLES = "obstacles";
    static final String OCCUPANTS = "occupants";
    static final String POWER = "power";
    static final String STAYS = "stays";
    static final String LIMITS = "limits";
    static final String CHANGES = "changes";
    static final String SNAPSHOT = "snapshot";
    static final String TEXT = "text";
    static final String FAULT = "fault";
    static final String REASON = "reason";
    static final String MOVES = "moves";

    private static final int PITCH_NUMBERS = 7;
    private static final int PARTY_NUMBERS = 10;

    private View() {
    }

    /** The parts but those that are named. */
    static Map<String, String> of(Booker x, String... but) {
        Map<String, String> parts = new LinkedHashMap<>();
        camp(x, parts);
        parts.put(CHANGES, changes(x));
        parts.put(SNAPSHOT, snapshot(x));
        parts.put(TEXT, text(x));
        Booker copy = x.copy();
        parts.put(FAULT, Integer.toString(copy.faultPosition()));
        parts.put(REASON, Check.answer(n -> copy.refusal(), 0));
        parts.put(MOVES, moves(copy));
        parts.keySet().removeAll(List.of(but));
        return parts;
    }

    /** What undo and restore bring back. */
    static Map<String, String> camp(Booker x) {
        Map<String, String> parts = new LinkedHashMap<>();
        camp(x, parts);
        return parts;
    }

    private static void camp(Booker x, Map<String, String> parts) {
        Booker copy = x.copy();
        int pitches = copy.account(0);
        int parties = copy.account(1) + copy.account(2);
        parts.put(TONIGHT, Integer.toString(copy.tonight()));
        parts.put(ACCOUNTS, Check.list(0, 7, copy::account));
        parts.put(PITCHES, table(pitches, PITCH_NUMBERS, copy::pitch));
        parts.put(PARTIES, table(parties, PARTY_NUMBERS, copy::party));
        parts.put(SEASONS, table(copy.account(7), 3, copy::season));
        parts.put(OBSTACLES, table(parties, pitches, copy::obstacle));
        Booker first = x.copy();
        Booker second = x.copy();
        int half = Math.min(pitches, 3);
        parts.put(OCCUPANTS, table(half, 60, first::occupant)
                + table(pitches - half, 60, (pitch, night) -> second.occupant(half + pitch, night)));
        Booker third = x.copy();
        parts.put(POWER, table(3, 60, third::power) + Check.list(0, 2, third::peak));
        parts.put(STAYS, Check.list(0, 59, night -> third.leastStay(night, 1)));
        parts.put(LIMITS, limits(x.copy()));
    }

    private interface Two {
        int ask(int one, int other);
    }

    private static String table(int rows, int columns, Two ask) {
        StringBuilder all = new StringBuilder();
        for (int row = 0; row < rows; row++) {
            int one = row;
            all.append("(").append(Check.list(0, columns - 1, other -> ask.ask(one, other))).append(")");
        }
        return all.toString();
    }

    private static String limits(Booker copy) {
        return Check.list(0, 2, circuit -> copy.setLimit(circuit, 16)) + " gap " + copy.setGap(1);
    }

    /** The state behind one undo, behind two, and so on. */
    private static String changes(Booker x) {
        StringBuilder all = new StringBuilder();
        Booker behind = x.copy();
        String answer = Check.answer(n -> behind.undo(), 0);
        while (!answer.endsWith("Exception")) {
            all.append("[").append(answer).append(brief(behind)).append("]");
            answer = Check.answer(n -> behind.undo(), 0);
        }
        return all.append(answer).toString();
    }

    private static String snapshot(Booker x) {
        Booker behind = x.copy();
        String thrown = Check.outcome(behind::restore);
        return thrown.isEmpty() ? brief(behind) : thrown;
    }

    private static String brief(Booker x) {
        Booker copy = x.copy();
        return copy.tonight() + " " + table(copy.account(0), PITCH_NUMBERS, copy::pitch)
                + table(copy.account(1) + copy.account(2), PARTY_NUMBERS, copy::party)
                + table(copy.account(7), 3, copy::season) + limits(copy);
    }

    /** How much room the buffer has, and how what it contains is read. */
    private static String text(Booker x) {
        Booker full = x.copy();
        int room = 0;
        while (room <= 30 && Check.outcome(() -> full.append('t')).isEmpty()) {
            room++;
        }
        Booker read = x.copy();
        String answer = Check.answer(n -> read.readBooking(), 0);
        return "room " + room + " read " + answer + " fault " + read.faultPosition() + " parties "
                + table(read.account(1) + read.account(2), PARTY_NUMBERS, read::party);
    }

    static String moves(Booker x) {
        return x.moves() + " " + table(x.moves(), 3, x::moveOf);
    }
}
