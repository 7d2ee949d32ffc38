import java.util.ArrayList;
import java.util.List;

/** The document once more, word by word and night by night, to compare the program with. */
final class Model {
    /** What is thrown is told by its name, so that the program's own way to throw is not repeated. */
    static final class Thrown extends RuntimeException {
        private static final long serialVersionUID = 1L;
        final String name;

        Thrown(String name) {
            super(name);
            this.name = name;
        }
    }

    static final class Guest {
        int kind, length, breadth, power, first, nights, pitch, price, fee;
        boolean booked;

        Guest copy() {
            Guest g = new Guest();
            g.kind = kind;
            g.length = length;
            g.breadth = breadth;
            g.power = power;
            g.first = first;
            g.nights = nights;
            g.pitch = pitch;
            g.price = price;
            g.fee = fee;
            g.booked = booked;
            return g;
        }

        boolean in(int night) {
            return night >= first && night <= first + nights - 1;
        }
    }

    static final class World {
        List<int[]> pitches = new ArrayList<>();
        List<Guest> guests = new ArrayList<>();
        List<int[]> seasons = new ArrayList<>();
        int[] limits = {16, 16, 16};
        int gapLimit = 1;
        int tonight = 0;

        World copy() {
            World w = new World();
            for (int[] pitch : pitches) {
                w.pitches.add(pitch.clone());
            }
            for (Guest guest : guests) {
                w.guests.add(guest.copy());
            }
            for (int[] season : seasons) {
                w.seasons.add(season.clone());
            }
            w.limits = limits.clone();
            w.gapLimit = gapLimit;
            w.tonight = tonight;
            return w;
        }

        boolean there(Guest g, int pitch, int night) {
            return g.booked && g.pitch == pitch && g.in(night);
        }

        int who(int pitch, int night) {
            for (int i = 0; i < guests.size(); i++) {
                if (there(guests.get(i), pitch, night)) {
                    return i;
                }
            }
            return -1;
        }

        boolean doubled(int pitch) {
            for (int night = 0; night < 60; night++) {
                int there = 0;
                for (Guest g : guests) {
                    there += there(g, pitch, night) ? 1 : 0;
                }
                if (there > 1) {
                    return true;
                }
            }
            return false;
        }

        List<Integer> busy(int pitch) {
            List<Integer> nights = new ArrayList<>();
            for (int night = 0; night < 60; night++) {
                if (who(pitch, night) >= 0) {
                    nights.add(night);
                }
            }
            return nights;
        }

        /** Rows without a party between neighbours among the nights with one. */
        List<int[]> gaps(int pitch) {
            List<int[]> gaps = new ArrayList<>();
            List<Integer> busy = busy(pitch);
            for (int i = 0; i + 1 < busy.size(); i++) {
                int row = busy.get(i + 1) - busy.get(i) - 1;
                if (row >= 1 && row <= gapLimit) {
                    gaps.add(new int[] {busy.get(i) + 1, busy.get(i + 1) - 1});
                }
            }
            return gaps;
        }

        int allGaps() {
            int all = 0;
            for (int p = 0; p < pitches.size(); p++) {
                all += gaps(p).size();
            }
            return all;
        }

        int power(int circuit, int night) {
            int sum = 0;
            for (Guest g : guests) {
                if (g.booked && g.in(night) && pitches.get(g.pitch)[3] == circuit) {
                    sum += g.power;
                }
            }
            return sum;
        }

        boolean fits(Guest g, int pitch) {
            int[] p = pitches.get(pitch);
            boolean shape = Math.max(g.length, g.breadth) <= Math.max(p[1], p[2])
                    && Math.min(g.length, g.breadth) <= Math.min(p[1], p[2]);
            return g.kind <= p[0] && shape && !(g.power > 0 && p[3] == -1);
        }

        int leastStay(int first, int nights) {
            int most = 1;
            for (int[] s : seasons) {
                for (int night = first; night < first + nights; night++) {
                    if (night >= s[0] && night <= s[1] && s[2] > most) {
                        most = s[2];
                    }
                }
            }
            return most;
        }

        /** With the guest on its pitch or nowhere. */
        boolean tooShort(Guest g, int pitch) {
            if (leastStay(g.first, g.nights) <= g.nights) {
                return false;
            }
            int ahead = g.first - 1;
            int behind = g.first + g.nights;
            return ahead < 0 || behind > 59 || who(pitch, ahead) < 0 || who(pitch, behind) < 0;
        }

        boolean overloaded(Guest g, int pitch) {
            int circuit = pitches.get(pitch)[3];
            for (int night = g.first; circuit >= 0 && night < g.first + g.nights; night++) {
                if (power(circuit, night) > limits[circuit]) {
                    return true;
                }
            }
            return false;
        }

        /** The guest is one that is not among the guests here. */
        int obstacle(Guest newcomer, int pitch) {
            World with = copy();
            Guest g = newcomer.copy();
            g.booked = true;
            g.pitch = pitch;
            if (!fits(g, pitch)) {
                return 1;
            }
            with.guests.add(g);
            if (with.doubled(pitch)) {
                return 2;
            }
            if (with.overloaded(g, pitch)) {
                return 3;
            }
            if (with.tooShort(g, pitch)) {
                return 4;
            }
            return with.allGaps() > allGaps() ? 5 : 0;
        }

        int obstacleOf(int guest, int pitch) {
            World without = copy();
            without.guests.get(guest).booked = false;
            return without.obstacle(guests.get(guest), pitch);
        }

        /** A plan: the pitch of the new guest, then party and pitch of each move. */
        boolean right(Guest newcomer, int[] plan) {
            World then = copy();
            Guest g = newcomer.copy();
            g.booked = true;
            g.pitch = plan[0];
            then.guests.add(g);
            for (int i = 1; i < plan.length; i += 2) {
                then.guests.get(plan[i]).pitch = plan[i + 1];
                if (!fits(guests.get(plan[i]), plan[i + 1])) {
                    return false;
                }
            }
            for (int p = 0; p < pitches.size(); p++) {
                if (then.doubled(p)) {
                    return false;
                }
            }
            for (int i = 1; i < plan.length; i += 2) {
                if (then.overloaded(then.guests.get(plan[i]), plan[i + 1])) {
                    return false;
                }
            }
            return !then.overloaded(g, plan[0]) && !then.tooShort(g, plan[0]) && then.allGaps() <= allGaps();
        }

        /** All plans for the newcomer with that many moves, in any order. */
        List<int[]> plans(Guest newcomer, int moves) {
            List<int[]> single = new ArrayList<>();
            for (int i = 0; i < guests.size(); i++) {
                Guest g = guests.get(i);
                for (int p = 0; p < pitches.size(); p++) {
                    if (g.booked && g.first >= tonight && g.pitch != p) {
                        single.add(new int[] {i, p});
                    }
                }
            }
            List<int[]> all = new ArrayList<>();
            for (int p = pitches.size() - 1; p >= 0; p--) {
                if (!fits(newcomer, p)) {
                    continue;
                }
                if (moves == 0) {
                    all.add(new int[] {p});
                }
                for (int[] one : single) {
                    if (moves == 1) {
                        all.add(new int[] {p, one[0], one[1]});
                    }
                    for (int[] two : single) {
                        if (moves == 2 && one[0] < two[0]) {
                            all.add(new int[] {p, one[0], one[1], two[0], two[1]});
                        }
                    }
                }
            }
            return all;
        }

        boolean better(int[] plan, int[] other) {
            int waste = pitches.get(plan[0])[1] * pitches.get(plan[0])[2];
            int otherWaste = pitches.get(other[0])[1] * pitches.get(other[0])[2];
            if (waste != otherWaste) {
                return waste < otherWaste;
            }
            for (int i = 0; i < plan.length; i++) {
                if (plan[i] != other[i]) {
                    return plan[i] < other[i];
                }
            }
            return false;
        }

        int[] best(Guest newcomer) {
            for (int moves = 0; moves <= 2; moves++) {
                int[] best = null;
                for (int[] plan : plans(newcomer, moves)) {
                    if ((best == null || better(plan, best)) && right(newcomer, plan)) {
                        best = plan;
                    }
                }
                if (best != null) {
                    return best;
                }
            }
            return null;
        }
    }

    World now = new World();
    World saved = null;
    final List<World> before = new ArrayList<>();
    String text = "";
    int fault = -1;
    int reason = 0;
    final List<int[]> latest = new ArrayList<>();

    private static void need(boolean holds, String thrown) {
        if (!holds) {
            throw new Thrown(thrown);
        }
    }

    private static boolean range(int number, int least, int most) {
        return number >= least && number <= most;
    }

    private static final String ARGUMENT = "IllegalArgumentException";
    private static final String STATE = "IllegalStateException";
    private static final String INDEX = "IndexOutOfBoundsException";
    private static final String NONE = "NoSuchElementException";
    private static final String REFUSED = "UnsupportedOperationException";

    private void change() {
        before.add(now.copy());
        if (before.size() > 8) {
            before.remove(0);
        }
    }

    int addPitch(int kind, int length, int breadth, int circuit) {
        need(range(kind, 0, 2) && range(length, 2, 12) && range(breadth, 2, 12) && range(circuit, -1, 2), ARGUMENT);
        need(now.pitches.size() < 6, STATE);
        change();
        now.pitches.add(new int[] {kind, length, breadth, circuit, 10});
        return now.pitches.size() - 1;
    }

    int pitch(int pitch, int what) {
        need(range(pitch, 0, now.pitches.size() - 1), INDEX);
        need(range(what, 0, 6), ARGUMENT);
        return what == 5 ? now.busy(pitch).size() : what == 6 ? now.gaps(pitch).size() : now.pitches.get(pitch)[what];
    }

    int setLimit(int circuit, int limit) {
        need(range(circuit, 0, 2), INDEX);
        need(range(limit, 0, 40), ARGUMENT);
        change();
        int old = now.limits[circuit];
        now.limits[circuit] = limit;
        return old;
    }

    int setRate(int pitch, int rate) {
        need(range(pitch, 0, now.pitches.size() - 1), INDEX);
        need(range(rate, 1, 99), ARGUMENT);
        change();
        int old = now.pitches.get(pitch)[4];
        now.pitches.get(pitch)[4] = rate;
        return old;
    }

    int setGap(int limit) {
        need(range(limit, 0, 5), ARGUMENT);
        change();
        int old = now.gapLimit;
        now.gapLimit = limit;
        return old;
    }

    int addSeason(int first, int last, int stay) {
        need(range(first, 0, 59) && range(last, first, 59) && range(stay, 1, 14), ARGUMENT);
        need(now.seasons.size() < 4, STATE);
        change();
        now.seasons.add(new int[] {first, last, stay});
        return now.seasons.size() - 1;
    }

    int dropSeason(int season) {
        need(range(season, 0, now.seasons.size() - 1), INDEX);
        change();
        now.seasons.remove(season);
        return now.seasons.size();
    }

    int season(int season, int what) {
        need(range(season, 0, now.seasons.size() - 1), INDEX);
        need(range(what, 0, 2), ARGUMENT);
        return now.seasons.get(season)[what];
    }

    int leastStay(int first, int nights) {
        need(range(first, 0, 59) && range(nights, 1, 14) && first + nights <= 60, ARGUMENT);
        return now.leastStay(first, nights);
    }

    int book(int kind, int length, int breadth, int power, int first, int nights) {
        need(range(kind, 0, 2) && range(length, 1, 12) && range(breadth, 1, 12) && range(power, 0, 16)
                && range(first, 0, 59) && range(nights, 1, 14), ARGUMENT);
        need(first >= now.tonight && first + nights <= 60, ARGUMENT);
        need(now.guests.size() < 12, STATE);
        Guest g = new Guest();
        g.kind = kind;
        g.length = length;
        g.breadth = breadth;
        g.power = power;
        g.first = first;
        g.nights = nights;
        int[] plan = now.best(g);
        if (plan == null) {
            reason = 1;
            for (int p = 0; p < now.pitches.size(); p++) {
                reason = Math.max(reason, now.obstacle(g, p));
            }
            throw new Thrown(REFUSED);
        }
        change();
        latest.clear();
        for (int i = 1; i < plan.length; i += 2) {
            latest.add(new int[] {plan[i], now.guests.get(plan[i]).pitch, plan[i + 1]});
            now.guests.get(plan[i]).pitch = plan[i + 1];
        }
        g.booked = true;
        g.pitch = plan[0];
        g.price = (now.pitches.get(plan[0])[4] + power) * nights;
        now.guests.add(g);
        return now.guests.size() - 1;
    }

    void append(char c) {
        need(text.length() < 30, STATE);
        text += c;
    }

    private static final String NUMBER = "(0|[1-9][0-9]?)";
    private static final java.util.regex.Pattern WHOLE = java.util.regex.Pattern.compile(
            "([tcm])" + NUMBER + "x" + NUMBER + "@" + NUMBER + "\\+" + NUMBER + "(?:p" + NUMBER + ")?");

    /** Whether something can follow so that it becomes a text. */
    private static boolean begins(String start) {
        java.util.regex.Matcher m = WHOLE.matcher(start);
        return m.matches() || m.hitEnd();
    }

    int readBooking() {
        String read = text;
        text = "";
        java.util.regex.Matcher m = WHOLE.matcher(read);
        fault = -1;
        if (!m.matches()) {
            fault = 0;
            while (fault < read.length() && begins(read.substring(0, fault + 1))) {
                fault++;
            }
            throw new Thrown(ARGUMENT);
        }
        int[] n = new int[6];
        for (int i = 2; i <= 6; i++) {
            n[i - 1] = m.group(i) == null ? 0 : Integer.parseInt(m.group(i));
        }
        return book("tcm".indexOf(m.group(1)), n[1], n[2], n[5], n[3], n[4]);
    }

    int faultPosition() {
        return fault;
    }

    int refusal() {
        need(reason > 0, NONE);
        return reason;
    }

    int party(int party, int what) {
        need(range(party, 0, now.guests.size() - 1), INDEX);
        need(range(what, 0, 9), ARGUMENT);
        Guest g = now.guests.get(party);
        return new int[] {g.kind, g.length, g.breadth, g.power, g.first, g.nights, g.pitch, g.price,
            g.booked ? 1 : 0, g.booked ? 0 : g.fee}[what];
    }

    int moves() {
        return latest.size();
    }

    int moveOf(int move, int part) {
        need(range(move, 0, latest.size() - 1), NONE);
        need(range(part, 0, 2), ARGUMENT);
        return latest.get(move)[part];
    }

    int move(int party, int pitch) {
        need(range(party, 0, now.guests.size() - 1) && range(pitch, 0, now.pitches.size() - 1), INDEX);
        Guest g = now.guests.get(party);
        need(g.booked && g.first >= now.tonight && g.pitch != pitch, STATE);
        need(!range(now.obstacleOf(party, pitch), 1, 3), REFUSED);
        change();
        int old = g.pitch;
        now.guests.get(party).pitch = pitch;
        return old;
    }

    int cancel(int party) {
        need(range(party, 0, now.guests.size() - 1), INDEX);
        need(now.guests.get(party).booked && now.guests.get(party).first >= now.tonight, STATE);
        change();
        Guest g = now.guests.get(party);
        g.booked = false;
        int between = 0;
        for (int night = now.tonight; night < g.first; night++) {
            between++;
        }
        g.fee = between >= 7 ? 0 : between >= 3 ? g.price / 2 : g.price;
        return g.fee;
    }

    int advance(int nights) {
        need(nights >= 0 && (long) now.tonight + nights <= 60, ARGUMENT);
        change();
        int begun = 0;
        for (int i = 0; i < nights; i++) {
            for (Guest g : now.guests) {
                begun += g.booked && g.first == now.tonight ? 1 : 0;
            }
            now.tonight++;
        }
        return begun;
    }

    int tonight() {
        return now.tonight;
    }

    int obstacle(int party, int pitch) {
        need(range(party, 0, now.guests.size() - 1) && range(pitch, 0, now.pitches.size() - 1), INDEX);
        return now.obstacleOf(party, pitch);
    }

    int occupant(int pitch, int night) {
        need(range(pitch, 0, now.pitches.size() - 1) && range(night, 0, 59), INDEX);
        return now.who(pitch, night);
    }

    int busyNight(int pitch, int index) {
        need(range(pitch, 0, now.pitches.size() - 1), INDEX);
        List<Integer> busy = now.busy(pitch);
        need(range(index, 0, busy.size() - 1), NONE);
        return busy.get(index);
    }

    int firstFree(int pitch, int from, int nights) {
        need(range(pitch, 0, now.pitches.size() - 1), INDEX);
        need(range(from, 0, 59) && range(nights, 1, 14), ARGUMENT);
        for (int first = from; first < 60; first++) {
            int free = 0;
            while (free < nights && first + free < 60 && now.who(pitch, first + free) < 0) {
                free++;
            }
            if (free == nights) {
                return first;
            }
        }
        throw new Thrown(NONE);
    }

    int power(int circuit, int night) {
        need(range(circuit, 0, 2) && range(night, 0, 59), INDEX);
        return now.power(circuit, night);
    }

    int peak(int circuit) {
        need(range(circuit, 0, 2), INDEX);
        int peak = 0;
        for (int night = 59; night >= 0; night--) {
            peak = now.power(circuit, night) >= now.power(circuit, peak) ? night : peak;
        }
        for (int night = 0; night < 60; night++) {
            peak = now.power(circuit, night) > now.power(circuit, peak) ? night : peak;
        }
        need(now.power(circuit, peak) > 0, NONE);
        return peak;
    }

    int gap(int pitch, int gap, boolean isLast) {
        need(range(pitch, 0, now.pitches.size() - 1), INDEX);
        List<int[]> gaps = now.gaps(pitch);
        need(range(gap, 0, gaps.size() - 1), NONE);
        return gaps.get(gap)[isLast ? 1 : 0];
    }

    int account(int what) {
        need(range(what, 0, 7), ARGUMENT);
        int[] all = {now.pitches.size(), 0, 0, 0, 0, now.allGaps(), 0, now.seasons.size()};
        for (Guest g : now.guests) {
            all[g.booked ? 1 : 2]++;
            all[3] += g.booked ? g.price : 0;
            all[4] += g.booked ? 0 : g.fee;
        }
        for (int p = 0; p < now.pitches.size(); p++) {
            all[6] += now.busy(p).size();
        }
        return all[what];
    }

    double share() {
        need(!now.pitches.isEmpty(), "ArithmeticException");
        return (double) account(6) / (60.0 * (double) now.pitches.size());
    }

    int undo() {
        need(!before.isEmpty(), STATE);
        now = before.remove(before.size() - 1);
        return before.size();
    }

    void save() {
        saved = now.copy();
    }

    void restore() {
        need(saved != null, STATE);
        now = saved.copy();
        before.clear();
    }
}
