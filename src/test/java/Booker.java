import java.util.ArrayList;
import java.util.List;

/**
 * A CampsiteBooker that writes down its calls, so that a copy of it can be made and asked in its place: the document
 * promises the answers of an object's first 512 calls alone.
 */
final class Booker {
    static final int MOST_CALLS = 512;

    interface Call {
        int on(CampsiteBooker x);
    }

    private final CampsiteBooker real = new CampsiteBooker();
    private final List<Call> calls = new ArrayList<>();

    /** Another object behind the same calls. */
    Booker copy() {
        Booker copy = new Booker();
        for (Call call : calls) {
            try {
                copy.ask(call);
            } catch (RuntimeException e) {
                // The first time it was thrown, too, and looked at by the test.
            }
        }
        return copy;
    }

    int callsMade() {
        return calls.size();
    }

    private int ask(Call call) {
        if (calls.size() >= MOST_CALLS) {
            throw new AssertionError("a test makes more calls of an object than are promised");
        }
        calls.add(call);
        return call.on(real);
    }

    private void tell(java.util.function.Consumer<CampsiteBooker> call) {
        ask(x -> {
            call.accept(x);
            return 0;
        });
    }

    int addPitch(int kind, int length, int breadth, int circuit) {
        return ask(x -> x.addPitch(kind, length, breadth, circuit));
    }

    int pitch(int pitch, int what) {
        return ask(x -> x.pitch(pitch, what));
    }

    int setLimit(int circuit, int limit) {
        return ask(x -> x.setLimit(circuit, limit));
    }

    int setRate(int pitch, int rate) {
        return ask(x -> x.setRate(pitch, rate));
    }

    int setGap(int limit) {
        return ask(x -> x.setGap(limit));
    }

    int addSeason(int first, int last, int stay) {
        return ask(x -> x.addSeason(first, last, stay));
    }

    int dropSeason(int season) {
        return ask(x -> x.dropSeason(season));
    }

    int season(int season, int what) {
        return ask(x -> x.season(season, what));
    }

    int leastStay(int first, int nights) {
        return ask(x -> x.leastStay(first, nights));
    }

    int book(int kind, int length, int breadth, int power, int first, int nights) {
        return ask(x -> x.book(kind, length, breadth, power, first, nights));
    }

    void append(char c) {
        tell(x -> x.append(c));
    }

    int readBooking() {
        return ask(x -> x.readBooking());
    }

    int faultPosition() {
        return ask(x -> x.faultPosition());
    }

    int refusal() {
        return ask(x -> x.refusal());
    }

    int party(int party, int what) {
        return ask(x -> x.party(party, what));
    }

    int moves() {
        return ask(x -> x.moves());
    }

    int moveOf(int move, int part) {
        return ask(x -> x.moveOf(move, part));
    }

    int move(int party, int pitch) {
        return ask(x -> x.move(party, pitch));
    }

    int cancel(int party) {
        return ask(x -> x.cancel(party));
    }

    int advance(int nights) {
        return ask(x -> x.advance(nights));
    }

    int tonight() {
        return ask(x -> x.tonight());
    }

    int obstacle(int party, int pitch) {
        return ask(x -> x.obstacle(party, pitch));
    }

    int occupant(int pitch, int night) {
        return ask(x -> x.occupant(pitch, night));
    }

    int busyNight(int pitch, int index) {
        return ask(x -> x.busyNight(pitch, index));
    }

    int firstFree(int pitch, int from, int nights) {
        return ask(x -> x.firstFree(pitch, from, nights));
    }

    int power(int circuit, int night) {
        return ask(x -> x.power(circuit, night));
    }

    int peak(int circuit) {
        return ask(x -> x.peak(circuit));
    }

    int gap(int pitch, int gap, boolean isLast) {
        return ask(x -> x.gap(pitch, gap, isLast));
    }

    int account(int what) {
        return ask(x -> x.account(what));
    }

    double share() {
        double[] share = new double[1];
        tell(x -> share[0] = x.share());
        return share[0];
    }

    int undo() {
        return ask(x -> x.undo());
    }

    void save() {
        tell(x -> x.save());
    }

    void restore() {
        tell(x -> x.restore());
    }
}
