import java.util.NoSuchElementException;

/** A booker for a small campsite. The promises of its document are named by number above the methods. */
public final class CampsiteBooker {
    private static final int NIGHTS = 60;
    private static final int LONGEST_STAY = 14;
    private static final int MOST_KIND = 2;
    private static final int MOST_PITCHES = 6;
    private static final int LEAST_SIDE = 2;
    private static final int MOST_SIDE = 12;
    private static final int FIRST_RATE = 10;
    private static final int MOST_RATE = 99;
    private static final int CIRCUITS = 3;
    private static final int NO_CIRCUIT = -1;
    private static final int FIRST_LIMIT = 16;
    private static final int MOST_LIMIT = 40;
    private static final int MOST_PARTIES = 12;
    private static final int MOST_POWER = 16;
    private static final int NOBODY = -1;
    private static final int NO_PITCH = -1;
    private static final int MOST_SEASONS = 4;
    private static final int FIRST_GAP = 1;
    private static final int MOST_GAP = 5;

    private static final int NO_OBSTACLE = 0;
    private static final int NO_FIT = 1;
    private static final int TAKEN = 2;
    private static final int NO_POWER = 3;
    private static final int TOO_SHORT = 4;
    private static final int NEW_GAP = 5;

    private static final int NO_REASON = 0;
    private static final int MOST_MOVES = 2;
    private static final int SLOTS = MOST_MOVES + 1;
    private static final int MOVE_PARTS = 3;
    private static final int NO_FEE_DAYS = 7;
    private static final int HALF_FEE_DAYS = 3;
    private static final int MOST_CHANGES = 8;
    private static final int BUFFER_SIZE = 30;
    private static final int NO_FAULT = -1;

    // The numbers of a text, in its order.
    private static final int LENGTH = 0;
    private static final int BREADTH = 1;
    private static final int FIRST = 2;
    private static final int STAY = 3;
    private static final int POWER = 4;
    private static final int TEXT_NUMBERS = 5;

    private final Planner planner;
    private final Camp camp;
    private final Camp snapshot;
    private boolean hasSnapshot;
    private final History history;
    private final BookingText text;
    private int reason;
    private int latestMoveCount;
    private final int[] latestMoves;

    /** Promise 1. */
    public CampsiteBooker() {
        planner = new Planner();
        camp = planner.camp;
        snapshot = new Camp();
        hasSnapshot = false;
        history = new History();
        text = new BookingText();
        reason = NO_REASON;
        latestMoveCount = 0;
        latestMoves = new int[MOST_MOVES * MOVE_PARTS];
    }

    /** Promise 2. */
    public int addPitch(int kind, int length, int breadth, int circuit)
            throws IllegalArgumentException, IllegalStateException {
        if (!isWithin(kind, 0, MOST_KIND) || !isWithin(length, LEAST_SIDE, MOST_SIDE)
                || !isWithin(breadth, LEAST_SIDE, MOST_SIDE) || !isWithin(circuit, NO_CIRCUIT, CIRCUITS - 1)) {
            throw new IllegalArgumentException("a number of the pitch is out of range");
        }
        if (camp.pitchCount >= MOST_PITCHES) {
            throw new IllegalStateException("all pitches are made");
        }
        history.keep(camp);
        return camp.makePitch(kind, length, breadth, circuit);
    }

    /** Promise 3. */
    public int pitch(int pitch, int what) throws IndexOutOfBoundsException, IllegalArgumentException {
        requirePitch(pitch);
        Pitch asked = camp.pitches[pitch];
        switch (what) {
            case 0:
                return asked.kind;
            case 1:
                return asked.length;
            case 2:
                return asked.breadth;
            case 3:
                return asked.circuit;
            case 4:
                return asked.rate;
            case 5:
                return Long.bitCount(camp.busyNights(pitch, NOBODY));
            case 6:
                return camp.countGaps(camp.busyNights(pitch, NOBODY));
            default:
                throw new IllegalArgumentException("there is no such number of a pitch");
        }
    }

    /** Promise 4. */
    public int setLimit(int circuit, int limit) throws IndexOutOfBoundsException, IllegalArgumentException {
        requireCircuit(circuit);
        if (!isWithin(limit, 0, MOST_LIMIT)) {
            throw new IllegalArgumentException("the limit is out of range");
        }
        history.keep(camp);
        int before = camp.limits[circuit];
        camp.limits[circuit] = limit;
        return before;
    }

    /** Promise 5. */
    public int setRate(int pitch, int rate) throws IndexOutOfBoundsException, IllegalArgumentException {
        requirePitch(pitch);
        if (!isWithin(rate, 1, MOST_RATE)) {
            throw new IllegalArgumentException("the rate is out of range");
        }
        history.keep(camp);
        int before = camp.pitches[pitch].rate;
        camp.pitches[pitch].rate = rate;
        return before;
    }

    /** Promise 6. */
    public int setGap(int limit) throws IllegalArgumentException {
        if (!isWithin(limit, 0, MOST_GAP)) {
            throw new IllegalArgumentException("the gap limit is out of range");
        }
        history.keep(camp);
        int before = camp.gapLimit;
        camp.gapLimit = limit;
        return before;
    }

    /** Promise 7. */
    public int addSeason(int first, int last, int stay) throws IllegalArgumentException, IllegalStateException {
        if (!isNight(first) || !isNight(last) || last < first || !isWithin(stay, 1, LONGEST_STAY)) {
            throw new IllegalArgumentException("a number of the season is out of range");
        }
        if (camp.seasonCount >= MOST_SEASONS) {
            throw new IllegalStateException("all seasons are kept");
        }
        history.keep(camp);
        return camp.makeSeason(first, last, stay);
    }

    /** Promise 8. */
    public int dropSeason(int season) throws IndexOutOfBoundsException {
        requireSeason(season);
        history.keep(camp);
        camp.removeSeason(season);
        return camp.seasonCount;
    }

    /** Promise 9. */
    public int season(int season, int what) throws IndexOutOfBoundsException, IllegalArgumentException {
        requireSeason(season);
        Season asked = camp.seasons[season];
        switch (what) {
            case 0:
                return asked.first;
            case 1:
                return asked.last;
            case 2:
                return asked.stay;
            default:
                throw new IllegalArgumentException("there is no such number of a season");
        }
    }

    /** Promise 10. */
    public int leastStay(int first, int nights) throws IllegalArgumentException {
        if (!isStay(first, nights)) {
            throw new IllegalArgumentException("a number of the stay is out of range");
        }
        return camp.stayAsked(first, nights);
    }

    /** Promise 11. */
    public int book(int kind, int length, int breadth, int power, int first, int nights)
            throws IllegalArgumentException, IllegalStateException, UnsupportedOperationException {
        if (!isWithin(kind, 0, MOST_KIND) || !isWithin(length, 1, MOST_SIDE) || !isWithin(breadth, 1, MOST_SIDE)
                || !isWithin(power, 0, MOST_POWER) || !isStay(first, nights) || first < camp.tonight) {
            throw new IllegalArgumentException("a number of the party is out of range");
        }
        if (camp.partyCount >= MOST_PARTIES) {
            throw new IllegalStateException("all parties are booked");
        }
        planner.newcomer.describe(kind, length, breadth, power, first, nights);
        if (!planner.findBestPlan()) {
            reason = camp.greatestObstacle(planner.newcomer);
            throw new UnsupportedOperationException("no plan is right");
        }
        history.keep(camp);
        latestMoveCount = planner.writeMoves(latestMoves);
        return planner.carryOut();
    }

    /** Promise 12. */
    public void append(char c) throws IllegalStateException {
        if (!text.add(c)) {
            throw new IllegalStateException("the buffer is full");
        }
    }

    /** Promise 13. */
    public int readBooking()
            throws IllegalArgumentException, IllegalStateException, UnsupportedOperationException {
        if (!text.parse()) {
            throw new IllegalArgumentException("the text has a fault");
        }
        int[] said = text.numbers;
        return book(text.kind, said[LENGTH], said[BREADTH], said[POWER], said[FIRST], said[STAY]);
    }

    /** Promise 14. */
    public int faultPosition() {
        return text.fault;
    }

    /** Promise 15. */
    public int refusal() throws NoSuchElementException {
        if (reason == NO_REASON) {
            throw new NoSuchElementException("no booking was refused");
        }
        return reason;
    }

    /** Promise 16. */
    public int party(int party, int what) throws IndexOutOfBoundsException, IllegalArgumentException {
        requireParty(party);
        Party asked = camp.parties[party];
        switch (what) {
            case 0:
                return asked.kind;
            case 1:
                return asked.length;
            case 2:
                return asked.breadth;
            case 3:
                return asked.power;
            case 4:
                return asked.first;
            case 5:
                return asked.nights;
            case 6:
                return asked.pitch;
            case 7:
                return asked.price;
            case 8:
                return asked.isBooked ? 1 : 0;
            case 9:
                return asked.fee;
            default:
                throw new IllegalArgumentException("there is no such number of a party");
        }
    }

    /** Promise 17. */
    public int moves() {
        return latestMoveCount;
    }

    /** Promise 18. */
    public int moveOf(int move, int part) throws NoSuchElementException, IllegalArgumentException {
        if (!isWithin(move, 0, latestMoveCount - 1)) {
            throw new NoSuchElementException("there is no such move");
        }
        if (!isWithin(part, 0, MOVE_PARTS - 1)) {
            throw new IllegalArgumentException("there is no such part of a move");
        }
        return latestMoves[move * MOVE_PARTS + part];
    }

    /** Promise 19. */
    public int move(int party, int pitch)
            throws IndexOutOfBoundsException, IllegalStateException, UnsupportedOperationException {
        requireParty(party);
        requirePitch(pitch);
        Party mover = camp.parties[party];
        if (!camp.isStillToCome(mover) || mover.pitch == pitch) {
            throw new IllegalStateException("the party can't be moved there");
        }
        if (isWithin(camp.obstacleOf(mover, party, pitch), NO_FIT, NO_POWER)) {
            throw new UnsupportedOperationException("the party has an obstacle there");
        }
        history.keep(camp);
        int before = mover.pitch;
        mover.pitch = pitch;
        return before;
    }

    /** Promise 20. */
    public int cancel(int party) throws IndexOutOfBoundsException, IllegalStateException {
        requireParty(party);
        Party leaver = camp.parties[party];
        if (!camp.isStillToCome(leaver)) {
            throw new IllegalStateException("the party can't be cancelled");
        }
        history.keep(camp);
        leaver.isBooked = false;
        leaver.fee = leaver.feeAt(camp.tonight);
        return leaver.fee;
    }

    /** Promise 21. */
    public int advance(int nights) throws IllegalArgumentException {
        if (!isWithin(nights, 0, NIGHTS - camp.tonight)) {
            throw new IllegalArgumentException("so many nights can't go by");
        }
        history.keep(camp);
        int before = camp.tonight;
        camp.tonight = before + nights;
        return camp.countArrivals(before, camp.tonight);
    }

    /** Promise 22. */
    public int tonight() {
        return camp.tonight;
    }

    /** Promise 23. */
    public int obstacle(int party, int pitch) throws IndexOutOfBoundsException {
        requireParty(party);
        requirePitch(pitch);
        return camp.obstacleOf(camp.parties[party], party, pitch);
    }

    /** Promise 24. */
    public int occupant(int pitch, int night) throws IndexOutOfBoundsException {
        requirePitch(pitch);
        requireNight(night);
        return camp.partyAt(pitch, night);
    }

    /** Promise 25. */
    public int busyNight(int pitch, int index) throws IndexOutOfBoundsException, NoSuchElementException {
        requirePitch(pitch);
        int night = nightAt(camp.busyNights(pitch, NOBODY), index);
        if (night >= NIGHTS) {
            throw new NoSuchElementException("there is no such night");
        }
        return night;
    }

    /** Promise 26. */
    public int firstFree(int pitch, int from, int nights)
            throws IndexOutOfBoundsException, IllegalArgumentException, NoSuchElementException {
        requirePitch(pitch);
        if (!isNight(from) || !isWithin(nights, 1, LONGEST_STAY)) {
            throw new IllegalArgumentException("a number is out of range");
        }
        int night = freeFrom(camp.busyNights(pitch, NOBODY), from, nights);
        if (night >= NIGHTS) {
            throw new NoSuchElementException("there is no such night");
        }
        return night;
    }

    /** Promise 27. */
    public int power(int circuit, int night) throws IndexOutOfBoundsException {
        requireCircuit(circuit);
        requireNight(night);
        return camp.powerUsed(circuit, night, NOBODY);
    }

    /** Promise 28. */
    public int peak(int circuit) throws IndexOutOfBoundsException, NoSuchElementException {
        requireCircuit(circuit);
        int peak = NIGHTS;
        int most = 0;
        for (int night = 0; night < NIGHTS; night++) {
            int used = camp.powerUsed(circuit, night, NOBODY);
            if (used > most) {
                most = used;
                peak = night;
            }
        }
        if (peak >= NIGHTS) {
            throw new NoSuchElementException("no power is used");
        }
        return peak;
    }

    /** Promise 29. */
    public int gap(int pitch, int gap, boolean isLast) throws IndexOutOfBoundsException, NoSuchElementException {
        requirePitch(pitch);
        long busy = camp.busyNights(pitch, NOBODY);
        int edge = nightAt(camp.gapEdges(busy), gap);
        if (edge >= NIGHTS) {
            throw new NoSuchElementException("there is no such gap");
        }
        return isLast ? nextBusy(busy, edge + 1) - 1 : edge + 1;
    }

    /** Promise 30. */
    public int account(int what) throws IllegalArgumentException {
        switch (what) {
            case 0:
                return camp.pitchCount;
            case 1:
                return camp.countBooked();
            case 2:
                return camp.partyCount - camp.countBooked();
            case 3:
                return camp.sumPrices();
            case 4:
                return camp.sumFees();
            case 5:
                return camp.countAllGaps();
            case 6:
                return camp.countAllBusyNights();
            case 7:
                return camp.seasonCount;
            default:
                throw new IllegalArgumentException("there is no such account");
        }
    }

    /** Promise 31. */
    public double share() throws ArithmeticException {
        if (camp.pitchCount <= 0) {
            throw new ArithmeticException("there are no pitches");
        }
        return (double) camp.countAllBusyNights() / (double) (NIGHTS * camp.pitchCount);
    }

    /** Promise 32. */
    public int undo() throws IllegalStateException {
        if (history.count <= 0) {
            throw new IllegalStateException("no change is kept");
        }
        history.takeBack(camp);
        return history.count;
    }

    /** Promise 33. */
    public void save() {
        snapshot.copyFrom(camp);
        hasSnapshot = true;
    }

    /** Promise 34. */
    public void restore() throws IllegalStateException {
        if (!hasSnapshot) {
            throw new IllegalStateException("there is no snapshot");
        }
        camp.copyFrom(snapshot);
        history.count = 0;
    }

    private void requirePitch(int number) {
        if (!camp.hasPitch(number)) {
            throw new IndexOutOfBoundsException("there is no such pitch");
        }
    }

    private void requireParty(int number) {
        if (!isWithin(number, 0, camp.partyCount - 1)) {
            throw new IndexOutOfBoundsException("there is no such party");
        }
    }

    private void requireSeason(int number) {
        if (!isWithin(number, 0, camp.seasonCount - 1)) {
            throw new IndexOutOfBoundsException("there is no such season");
        }
    }

    private static void requireCircuit(int number) {
        if (!isCircuit(number)) {
            throw new IndexOutOfBoundsException("there is no such circuit");
        }
    }

    private static void requireNight(int night) {
        if (!isNight(night)) {
            throw new IndexOutOfBoundsException("there is no such night");
        }
    }

    private static boolean isWithin(int number, int least, int most) {
        return number >= least && number <= most;
    }

    private static boolean isNight(int night) {
        return night >= 0 && night < NIGHTS;
    }

    private static boolean isCircuit(int number) {
        return number >= 0 && number < CIRCUITS;
    }

    private static boolean isStay(int first, int nights) {
        return isNight(first) && isWithin(nights, 1, LONGEST_STAY) && nights <= NIGHTS - first;
    }

    // Sets of nights are held in a long, a bit for each night.

    private static long stayOf(int first, int nights) {
        return ((1L << nights) - 1L) << first;
    }

    /** Nights ahead of 0 and behind 59 are in no set. */
    private static boolean holds(long nights, int night) {
        return night >= 0 && night < NIGHTS && (nights >>> night & 1L) != 0L;
    }

    /** The night with an index among those of a set, or NIGHTS. */
    private static int nightAt(long nights, int index) {
        int before = 0;
        for (int night = 0; night < NIGHTS; night++) {
            if (holds(nights, night)) {
                if (before == index) {
                    return night;
                }
                before++;
            }
        }
        return NIGHTS;
    }

    private static int nextBusy(long busy, int from) {
        int night = from;
        while (night < NIGHTS && !holds(busy, night)) {
            night++;
        }
        return night;
    }

    /** The first night from which on some nights are free, or NIGHTS. */
    private static int freeFrom(long busy, int from, int nights) {
        for (int first = from; first <= NIGHTS - nights; first++) {
            if ((busy & stayOf(first, nights)) == 0L) {
                return first;
            }
        }
        return NIGHTS;
    }

    private static final class Pitch {
        int kind;
        int length;
        int breadth;
        int circuit;
        int rate;

        void copyFrom(Pitch other) {
            kind = other.kind;
            length = other.length;
            breadth = other.breadth;
            circuit = other.circuit;
            rate = other.rate;
        }

        boolean takes(Party party) {
            boolean isStraight = party.length <= length && party.breadth <= breadth;
            boolean isTurned = party.breadth <= length && party.length <= breadth;
            return party.kind <= kind && (isStraight || isTurned) && (party.power == 0 || circuit != NO_CIRCUIT);
        }
    }

    private static final class Party {
        int kind;
        int length;
        int breadth;
        int power;
        int first;
        int nights;
        long stay;
        int pitch;
        int price;
        int fee;
        boolean isBooked;

        void describe(int itsKind, int itsLength, int itsBreadth, int itsPower, int itsFirst, int itsNights) {
            kind = itsKind;
            length = itsLength;
            breadth = itsBreadth;
            power = itsPower;
            first = itsFirst;
            nights = itsNights;
            stay = stayOf(itsFirst, itsNights);
            pitch = NO_PITCH;
            price = 0;
            fee = 0;
            isBooked = false;
        }

        void copyFrom(Party other) {
            kind = other.kind;
            length = other.length;
            breadth = other.breadth;
            power = other.power;
            first = other.first;
            nights = other.nights;
            stay = other.stay;
            pitch = other.pitch;
            price = other.price;
            fee = other.fee;
            isBooked = other.isBooked;
        }

        boolean isOn(int number) {
            return isBooked && pitch == number;
        }

        int feeAt(int tonight) {
            int left = first - tonight;
            if (left >= NO_FEE_DAYS) {
                return 0;
            }
            return left >= HALF_FEE_DAYS ? price / 2 : price;
        }
    }

    private static final class Season {
        int first;
        int last;
        int stay;

        void copyFrom(Season other) {
            first = other.first;
            last = other.last;
            stay = other.stay;
        }
    }

    /** All that undo and restore bring back. */
    private static final class Camp {
        final Pitch[] pitches;
        int pitchCount;
        final Party[] parties;
        int partyCount;
        final Season[] seasons;
        int seasonCount;
        final int[] limits;
        int gapLimit;
        int tonight;

        Camp() {
            pitches = new Pitch[MOST_PITCHES];
            for (int i = 0; i < pitches.length; i++) {
                pitches[i] = new Pitch();
            }
            parties = new Party[MOST_PARTIES];
            for (int i = 0; i < parties.length; i++) {
                parties[i] = new Party();
            }
            seasons = new Season[MOST_SEASONS];
            for (int i = 0; i < seasons.length; i++) {
                seasons[i] = new Season();
            }
            limits = new int[CIRCUITS];
            for (int i = 0; i < limits.length; i++) {
                limits[i] = FIRST_LIMIT;
            }
            gapLimit = FIRST_GAP;
        }

        void copyFrom(Camp other) {
            pitchCount = other.pitchCount;
            for (int i = 0; i < pitchCount; i++) {
                pitches[i].copyFrom(other.pitches[i]);
            }
            partyCount = other.partyCount;
            for (int i = 0; i < partyCount; i++) {
                parties[i].copyFrom(other.parties[i]);
            }
            seasonCount = other.seasonCount;
            for (int i = 0; i < seasonCount; i++) {
                seasons[i].copyFrom(other.seasons[i]);
            }
            for (int i = 0; i < CIRCUITS; i++) {
                limits[i] = other.limits[i];
            }
            gapLimit = other.gapLimit;
            tonight = other.tonight;
        }

        boolean hasPitch(int number) {
            return number >= 0 && number < pitchCount;
        }

        int circuitOf(int number) {
            return number >= 0 && number < pitchCount ? pitches[number].circuit : NO_CIRCUIT;
        }

        int rateOf(int number) {
            return hasPitch(number) ? pitches[number].rate : 0;
        }

        int areaOf(int number) {
            return hasPitch(number) ? pitches[number].length * pitches[number].breadth : 0;
        }

        boolean hasFit(Party party, int number) {
            return hasPitch(number) && pitches[number].takes(party);
        }

        boolean isStillToCome(Party party) {
            return party.isBooked && party.first >= tonight;
        }

        int makePitch(int kind, int length, int breadth, int circuit) {
            Pitch made = pitches[pitchCount];
            made.kind = kind;
            made.length = length;
            made.breadth = breadth;
            made.circuit = circuit;
            made.rate = FIRST_RATE;
            pitchCount++;
            return pitchCount - 1;
        }

        int makeSeason(int first, int last, int stay) {
            Season made = seasons[seasonCount];
            made.first = first;
            made.last = last;
            made.stay = stay;
            seasonCount++;
            return seasonCount - 1;
        }

        void removeSeason(int number) {
            for (int i = number; i + 1 < seasonCount; i++) {
                seasons[i].copyFrom(seasons[i + 1]);
            }
            seasonCount--;
        }

        int makeParty(Party newcomer, int number) {
            Party made = parties[partyCount];
            made.copyFrom(newcomer);
            made.pitch = number;
            made.price = (rateOf(number) + newcomer.power) * newcomer.nights;
            made.isBooked = true;
            partyCount++;
            return partyCount - 1;
        }

        /** The nights with a party on a pitch, but for one party that counts as absent. */
        long busyNights(int number, int absent) {
            long busy = 0L;
            for (int i = 0; i < partyCount; i++) {
                if (i != absent && parties[i].isOn(number)) {
                    busy |= parties[i].stay;
                }
            }
            return busy;
        }

        int partyAt(int number, int night) {
            for (int i = 0; i < partyCount; i++) {
                if (parties[i].isOn(number) && holds(parties[i].stay, night)) {
                    return i;
                }
            }
            return NOBODY;
        }

        int powerUsed(int circuit, int night, int absent) {
            int used = 0;
            for (int i = 0; i < partyCount; i++) {
                Party party = parties[i];
                if (i != absent && party.isBooked && holds(party.stay, night)
                        && circuitOf(party.pitch) == circuit) {
                    used += party.power;
                }
            }
            return used;
        }

        int stayAsked(int first, int nights) {
            int most = 1;
            for (int i = 0; i < seasonCount; i++) {
                Season season = seasons[i];
                boolean isMet = first <= season.last && first + nights > season.first;
                if (isMet && season.stay > most) {
                    most = season.stay;
                }
            }
            return most;
        }

        /** Whether a stay is too short among the other nights with a party on the same pitch. */
        boolean isTooShort(Party party, long others) {
            boolean fillsSpace = holds(others, party.first - 1) && holds(others, party.first + party.nights);
            return !fillsSpace && party.nights < stayAsked(party.first, party.nights);
        }

        /** The busy nights that have a gap right behind them. */
        long gapEdges(long busy) {
            long edges = 0L;
            long open = busy;
            for (int length = 1; length <= gapLimit; length++) {
                open &= ~(busy >>> length);
                edges |= open & (busy >>> (length + 1));
            }
            return edges;
        }

        int countGaps(long busy) {
            return Long.bitCount(gapEdges(busy));
        }

        int obstacleOf(Party party, int itsNumber, int number) {
            if (!hasFit(party, number)) {
                return NO_FIT;
            }
            long others = busyNights(number, itsNumber);
            if ((others & party.stay) != 0L) {
                return TAKEN;
            }
            if (isPowerShort(party, itsNumber, circuitOf(number))) {
                return NO_POWER;
            }
            if (isTooShort(party, others)) {
                return TOO_SHORT;
            }
            return countGaps(others | party.stay) > countGaps(others) ? NEW_GAP : NO_OBSTACLE;
        }

        private boolean isPowerShort(Party party, int itsNumber, int circuit) {
            if (!isCircuit(circuit)) {
                return false;
            }
            for (int night = party.first; night < party.first + party.nights; night++) {
                if (powerUsed(circuit, night, itsNumber) + party.power > limits[circuit]) {
                    return true;
                }
            }
            return false;
        }

        /** Without pitches, nothing is greater than that the party does not fit. */
        int greatestObstacle(Party newcomer) {
            int greatest = NO_FIT;
            for (int i = 0; i < pitchCount; i++) {
                greatest = Math.max(greatest, obstacleOf(newcomer, NOBODY, i));
            }
            return greatest;
        }

        int countArrivals(int from, int to) {
            int arrivals = 0;
            for (int i = 0; i < partyCount; i++) {
                if (parties[i].isBooked && parties[i].first >= from && parties[i].first < to) {
                    arrivals++;
                }
            }
            return arrivals;
        }

        int countBooked() {
            int booked = 0;
            for (int i = 0; i < partyCount; i++) {
                if (parties[i].isBooked) {
                    booked++;
                }
            }
            return booked;
        }

        int sumPrices() {
            int sum = 0;
            for (int i = 0; i < partyCount; i++) {
                if (parties[i].isBooked) {
                    sum += parties[i].price;
                }
            }
            return sum;
        }

        int sumFees() {
            int sum = 0;
            for (int i = 0; i < partyCount; i++) {
                sum += parties[i].fee;
            }
            return sum;
        }

        int countAllGaps() {
            int gaps = 0;
            for (int i = 0; i < pitchCount; i++) {
                gaps += countGaps(busyNights(i, NOBODY));
            }
            return gaps;
        }

        int countAllBusyNights() {
            int nights = 0;
            for (int i = 0; i < pitchCount; i++) {
                nights += Long.bitCount(busyNights(i, NOBODY));
            }
            return nights;
        }
    }

    /** The camps before the latest changes, in a ring. */
    private static final class History {
        final Camp[] kept;
        int next;
        int count;

        History() {
            kept = new Camp[MOST_CHANGES];
            for (int i = 0; i < kept.length; i++) {
                kept[i] = new Camp();
            }
        }

        void keep(Camp camp) {
            kept[next].copyFrom(camp);
            next = next + 1 < MOST_CHANGES ? next + 1 : 0;
            count = Math.min(count + 1, MOST_CHANGES);
        }

        void takeBack(Camp camp) {
            next = next > 0 ? next - 1 : MOST_CHANGES - 1;
            camp.copyFrom(kept[next]);
            count--;
        }
    }

    /**
     * Searches the best plan for the newcomer in its camp, which is that of the booker. A plan is held in
     * slots: slot 0 is the newcomer, which comes from nowhere, slots 1 and 2 are the moves.
     */
    private static final class Planner {
        final Camp camp;
        final Party newcomer;
        int moveCount;
        final Party[] who;
        final int[] number;
        final int[] from;
        final int[] to;
        final int[] oldCircuit;
        final int[] newCircuit;
        /** Behind the move of a slot: how many parties are still in the newcomer's way. */
        final int[] inTheWay;
        final long[] busy;
        final long[] planned;
        final int[] load;
        final int[] bySize;

        Planner() {
            camp = new Camp();
            newcomer = new Party();
            who = new Party[SLOTS];
            for (int slot = 0; slot < SLOTS; slot++) {
                who[slot] = newcomer;
            }
            number = new int[SLOTS];
            from = new int[SLOTS];
            to = new int[SLOTS];
            number[0] = NOBODY;
            from[0] = NO_PITCH;
            oldCircuit = new int[SLOTS];
            newCircuit = new int[SLOTS];
            oldCircuit[0] = NO_CIRCUIT;
            inTheWay = new int[SLOTS];
            busy = new long[MOST_PITCHES];
            planned = new long[MOST_PITCHES];
            load = new int[CIRCUITS * NIGHTS];
            bySize = new int[MOST_PITCHES];
        }

        boolean findBestPlan() {
            survey();
            sortPitches();
            for (int moves = 0; moves <= MOST_MOVES; moves++) {
                moveCount = moves;
                for (int i = 0; i < camp.pitchCount; i++) {
                    if (chooseGoal(bySize[i]) && findMoves()) {
                        return true;
                    }
                }
            }
            return false;
        }

        /** Writes number, old and new pitch of each move, and answers how many moves there are. */
        int writeMoves(int[] parts) {
            for (int slot = 1; slot <= moveCount; slot++) {
                int at = (slot - 1) * MOVE_PARTS;
                parts[at] = number[slot];
                parts[at + 1] = from[slot];
                parts[at + 2] = to[slot];
            }
            return moveCount;
        }

        int carryOut() {
            for (int slot = 1; slot <= moveCount; slot++) {
                who[slot].pitch = to[slot];
            }
            return camp.makeParty(newcomer, to[0]);
        }

        private void survey() {
            for (int i = 0; i < camp.pitchCount; i++) {
                busy[i] = camp.busyNights(i, NOBODY);
            }
            for (int i = 0; i < load.length; i++) {
                load[i] = 0;
            }
            for (int i = 0; i < camp.partyCount; i++) {
                Party party = camp.parties[i];
                int circuit = camp.circuitOf(party.pitch);
                if (party.isBooked && isCircuit(circuit)) {
                    addLoad(circuit, party);
                }
            }
        }

        private void addLoad(int circuit, Party party) {
            for (int night = party.first; night < party.first + party.nights; night++) {
                load[circuit * NIGHTS + night] += party.power;
            }
        }

        /** The waste of the newcomer grows with the area of the pitch alone; equal ones stay in their order. */
        private void sortPitches() {
            for (int i = 0; i < camp.pitchCount; i++) {
                int place = i;
                while (place > 0 && camp.areaOf(bySize[place - 1]) > camp.areaOf(i)) {
                    bySize[place] = bySize[place - 1];
                    place--;
                }
                bySize[place] = i;
            }
        }

        private boolean chooseGoal(int goal) {
            to[0] = goal;
            newCircuit[0] = camp.circuitOf(goal);
            inTheWay[0] = 0;
            for (int i = 0; i < camp.partyCount; i++) {
                if (isInTheWay(camp.parties[i])) {
                    inTheWay[0]++;
                }
            }
            return inTheWay[0] <= moveCount && camp.hasFit(newcomer, goal);
        }

        private boolean isInTheWay(Party party) {
            return party.isOn(to[0]) && (party.stay & newcomer.stay) != 0L;
        }

        /** Goes through the moves in the order of the document: by party, then by pitch, as one number. */
        private boolean findMoves() {
            if (moveCount == 0) {
                return isRight();
            }
            int end = camp.partyCount * MOST_PITCHES;
            for (int one = 0; one < end; one++) {
                if (!chooseMove(1, one / MOST_PITCHES, one % MOST_PITCHES)) {
                    continue;
                }
                if (moveCount == 1 && isRight()) {
                    return true;
                }
                int behind = (number[1] + 1) * MOST_PITCHES;
                for (int two = behind; moveCount == 2 && two < end; two++) {
                    if (chooseMove(2, two / MOST_PITCHES, two % MOST_PITCHES) && isRight()) {
                        return true;
                    }
                }
            }
            return false;
        }

        /** Fills a slot unless no plan with it could be right. */
        private boolean chooseMove(int slot, int mover, int goal) {
            Party party = camp.parties[mover];
            if (!camp.isStillToCome(party) || !camp.hasPitch(party.pitch) || party.pitch == goal) {
                return false;
            }
            inTheWay[slot] = inTheWay[slot - 1] - (isInTheWay(party) ? 1 : 0);
            if (inTheWay[slot] > moveCount - slot || !camp.hasFit(party, goal)) {
                return false;
            }
            who[slot] = party;
            number[slot] = mover;
            from[slot] = party.pitch;
            to[slot] = goal;
            oldCircuit[slot] = camp.circuitOf(party.pitch);
            newCircuit[slot] = camp.circuitOf(goal);
            return true;
        }

        private boolean isRight() {
            return seatAll() && !camp.isTooShort(newcomer, planned[to[0]]) && hasPower() && !makesGaps();
        }

        /** Puts all parties where the plan wants them, if no two of them meet. */
        private boolean seatAll() {
            for (int i = 0; i < camp.pitchCount; i++) {
                planned[i] = busy[i];
            }
            for (int slot = 1; slot <= moveCount; slot++) {
                planned[from[slot]] &= ~who[slot].stay;
            }
            for (int slot = 0; slot <= moveCount; slot++) {
                if ((planned[to[slot]] & who[slot].stay) != 0L) {
                    return false;
                }
                planned[to[slot]] |= who[slot].stay;
            }
            return true;
        }

        private boolean hasPower() {
            for (int slot = 0; slot <= moveCount; slot++) {
                int circuit = newCircuit[slot];
                Party party = who[slot];
                int end = isCircuit(circuit) ? party.first + party.nights : party.first;
                for (int night = party.first; night < end; night++) {
                    if (plannedLoad(circuit, night) > camp.limits[circuit]) {
                        return false;
                    }
                }
            }
            return true;
        }

        private int plannedLoad(int circuit, int night) {
            int sum = load[circuit * NIGHTS + night];
            for (int slot = 0; slot <= moveCount; slot++) {
                if ((who[slot].stay >>> night & 1L) != 0L) {
                    sum += newCircuit[slot] == circuit ? who[slot].power : 0;
                    sum -= oldCircuit[slot] == circuit ? who[slot].power : 0;
                }
            }
            return sum;
        }

        private boolean makesGaps() {
            int more = 0;
            for (int i = 0; i < camp.pitchCount; i++) {
                if (planned[i] != busy[i]) {
                    more += Long.bitCount(camp.gapEdges(planned[i])) - Long.bitCount(camp.gapEdges(busy[i]));
                }
            }
            return more > 0;
        }
    }

    /** The text buffer, and what the latest text that was read from it said. */
    private static final class BookingText {
        final char[] buffer;
        int size;
        int at;
        int fault;
        int kind;
        final int[] numbers;

        BookingText() {
            buffer = new char[BUFFER_SIZE];
            fault = NO_FAULT;
            numbers = new int[TEXT_NUMBERS];
        }

        boolean add(char c) {
            if (size >= buffer.length) {
                return false;
            }
            buffer[size] = c;
            size++;
            return true;
        }

        /** Reads the buffer and empties it. */
        boolean parse() {
            at = 0;
            boolean isGood = readAll();
            fault = isGood ? NO_FAULT : at;
            size = 0;
            return isGood;
        }

        /** Stops with at on the first character that cannot continue a text. */
        private boolean readAll() {
            return readKind() && readNumber(LENGTH) && readSign('x') && readNumber(BREADTH)
                    && readSign('@') && readNumber(FIRST) && readSign('+') && readNumber(STAY)
                    && readPower() && at == size;
        }

        private boolean readKind() {
            kind = 0;
            if (readSign('t')) {
                return true;
            }
            kind = 1;
            if (readSign('c')) {
                return true;
            }
            kind = 2;
            return readSign('m');
        }

        private boolean readPower() {
            numbers[POWER] = 0;
            return at == size || readSign('p') && readNumber(POWER);
        }

        private boolean readSign(char sign) {
            if (at >= size || at >= buffer.length || buffer[at] != sign) {
                return false;
            }
            at++;
            return true;
        }

        private boolean readNumber(int index) {
            int value = readDigit();
            if (value < 0) {
                return false;
            }
            int second = value > 0 ? readDigit() : -1;
            numbers[index] = second < 0 ? value : 10 * value + second;
            return true;
        }

        /** The next digit, or -1 if none is next. */
        private int readDigit() {
            if (at >= size || at >= buffer.length || buffer[at] < '0' || buffer[at] > '9') {
                return -1;
            }
            at++;
            return buffer[at - 1] - '0';
        }
    }
}
