/** Promise 11: which plan is the best one, and why bookings are refused. */
public final class BookingTest {
    private static final Class<IllegalArgumentException> ARGUMENT = IllegalArgumentException.class;
    private static final Class<IllegalStateException> STATE = IllegalStateException.class;
    private static final Class<UnsupportedOperationException> REFUSED = UnsupportedOperationException.class;

    private static final Check check = new Check();

    public static void main(String[] args) {
        wrongNumbers();
        thirteenth();
        fitting();
        waste();
        prices();
        reasons();
        power();
        stays();
        gaps();
        oneMove();
        fewestMovesFirst();
        begunPartiesStay();
        lowestPartyThenPitch();
        twoMoves();
        changeOfPlaces();
        chainOfMoves();
        movesForPower();
        movesForSpace();
        firstOfAllMoves();
        movesForGaps();
        movedPartyTooShort();
        movedPartyNeedsPower();
        noThirdMove();
        check.end();
    }

    private static void refused(String what, int reason, CampsiteBooker x, Check.Call call) {
        int parties = x.account(1) + x.account(2);
        check.fails(what, REFUSED, call);
        check.is("reason of " + what, reason, x.refusal());
        check.is("parties behind " + what, parties, x.account(1) + x.account(2));
    }

    private static String plan(CampsiteBooker x) {
        StringBuilder all = new StringBuilder();
        for (int i = 0; i < x.moves(); i++) {
            int move = i;
            all.append(i == 0 ? "" : ", ").append(Check.list(0, 2, part -> x.moveOf(move, part)));
        }
        return all.toString();
    }

    private static String places(CampsiteBooker x) {
        return Check.list(0, x.account(1) + x.account(2) - 1, p -> x.party(p, 6));
    }

    private static CampsiteBooker pitches(int... numbers) {
        CampsiteBooker x = new CampsiteBooker();
        for (int i = 0; i + 3 < numbers.length; i += 4) {
            x.addPitch(numbers[i], numbers[i + 1], numbers[i + 2], numbers[i + 3]);
        }
        return x;
    }

    private static void wrongNumbers() {
        check.theme("wrong numbers");
        CampsiteBooker x = pitches(2, 12, 12, 0);
        x.advance(3);
        for (int far : new int[] {-1, 99, Integer.MIN_VALUE, Integer.MAX_VALUE}) {
            check.fails("kind " + far, ARGUMENT, x, () -> x.book(far, 1, 1, 0, 5, 1));
            check.fails("length " + far, ARGUMENT, x, () -> x.book(0, far, 1, 0, 5, 1));
            check.fails("breadth " + far, ARGUMENT, x, () -> x.book(0, 1, far, 0, 5, 1));
            check.fails("power " + far, ARGUMENT, x, () -> x.book(0, 1, 1, far, 5, 1));
            check.fails("first " + far, ARGUMENT, x, () -> x.book(0, 1, 1, 0, far, 1));
            check.fails("nights " + far, ARGUMENT, x, () -> x.book(0, 1, 1, 0, 5, far));
        }
        check.fails("kind 3", ARGUMENT, x, () -> x.book(3, 1, 1, 0, 5, 1));
        check.fails("length 0", ARGUMENT, x, () -> x.book(0, 0, 1, 0, 5, 1));
        check.fails("length 13", ARGUMENT, x, () -> x.book(0, 13, 1, 0, 5, 1));
        check.fails("breadth 0", ARGUMENT, x, () -> x.book(0, 1, 0, 0, 5, 1));
        check.fails("breadth 13", ARGUMENT, x, () -> x.book(0, 1, 13, 0, 5, 1));
        check.fails("power 17", ARGUMENT, x, () -> x.book(0, 1, 1, 17, 5, 1));
        check.fails("before tonight", ARGUMENT, x, () -> x.book(0, 1, 1, 0, 2, 2));
        check.fails("first 60", ARGUMENT, x, () -> x.book(0, 1, 1, 0, 60, 1));
        check.fails("nights 0", ARGUMENT, x, () -> x.book(0, 1, 1, 0, 5, 0));
        check.fails("nights 15", ARGUMENT, x, () -> x.book(0, 1, 1, 0, 5, 15));
        check.fails("behind 59", ARGUMENT, x, () -> x.book(0, 1, 1, 0, 47, 14));
        check.is("tonight", 0, x.book(0, 1, 1, 0, 3, 1));
        check.is("the most of all", 1, x.book(2, 12, 12, 16, 46, 14));
        x.advance(57);
        check.fails("all nights over", ARGUMENT, x, () -> x.book(0, 1, 1, 0, 59, 1));
    }

    private static void thirteenth() {
        check.theme("a 13th party");
        CampsiteBooker x = pitches(0, 2, 2, -1);
        for (int i = 0; i < 12; i++) {
            check.is("party", i, x.book(0, 1, 1, 0, i * 3, 3));
        }
        check.fails("a 13th", STATE, x, () -> x.book(0, 1, 1, 0, 40, 3));
        x.cancel(11);
        check.fails("cancelled ones count", STATE, x, () -> x.book(0, 1, 1, 0, 40, 3));
        check.fails("one without fit", STATE, x, () -> x.book(2, 1, 1, 0, 40, 3));
        check.fails("a wrong one", ARGUMENT, x, () -> x.book(3, 1, 1, 0, 40, 3));
        x.undo();
        x.undo();
        check.is("the number is given back", 11, x.book(0, 1, 1, 0, 40, 3));
    }

    private static void fitting() {
        check.theme("fitting");
        CampsiteBooker x = pitches(1, 6, 3, -1);
        x.book(1, 6, 3, 0, 0, 1);
        x.book(0, 3, 6, 0, 5, 1);
        refused("kind", 1, x, () -> x.book(2, 1, 1, 0, 10, 1));
        refused("too long", 1, x, () -> x.book(0, 7, 1, 0, 10, 1));
        refused("too long, turned", 1, x, () -> x.book(0, 1, 7, 0, 10, 1));
        refused("too broad", 1, x, () -> x.book(0, 4, 4, 0, 10, 1));
        refused("power without circuit", 1, x, () -> x.book(0, 1, 1, 1, 10, 1));
    }

    private static void waste() {
        check.theme("waste");
        CampsiteBooker x = pitches(2, 5, 5, 0, 1, 4, 4, -1, 0, 8, 2, -1, 1, 2, 8, 1);
        x.book(0, 1, 1, 0, 0, 1);
        x.book(0, 1, 1, 0, 0, 1);
        x.book(0, 1, 1, 0, 0, 1);
        x.book(0, 1, 1, 0, 0, 1);
        check.same("by waste, then by number", "1 2 3 0", places(x));
        x.book(2, 1, 1, 0, 10, 1);
        check.is("by kind", 0, x.party(4, 6));
        x.book(1, 8, 1, 0, 10, 1);
        check.is("by shape", 3, x.party(5, 6));
        check.is("no moves", 0, x.moves());
    }

    private static void prices() {
        check.theme("prices");
        CampsiteBooker x = pitches(2, 5, 5, 0);
        x.setRate(0, 99);
        x.book(2, 5, 5, 16, 0, 14);
        check.is("the most", 1610, x.party(0, 7));
        x.setRate(0, 1);
        check.is("it is fixed", 1610, x.party(0, 7));
        x.book(2, 5, 5, 0, 20, 1);
        check.is("the least", 1, x.party(1, 7));
    }

    private static void reasons() {
        check.theme("reasons");
        CampsiteBooker x = pitches();
        refused("no pitch", 1, x, () -> x.book(0, 1, 1, 0, 0, 1));
        x.addPitch(0, 4, 4, 0);
        x.book(0, 1, 1, 10, 5, 3);
        x.advance(6);
        refused("taken", 2, x, () -> x.book(0, 1, 1, 16, 7, 1));
        x.addPitch(0, 4, 3, 0);
        refused("taken and power", 3, x, () -> x.book(0, 1, 1, 7, 7, 1));
        x.addSeason(7, 7, 2);
        refused("power, not the stay behind it", 3, x, () -> x.book(0, 1, 1, 7, 7, 1));
        refused("stay", 4, x, () -> x.book(0, 1, 1, 6, 7, 1));
        x.book(0, 1, 1, 6, 7, 2);
        refused("a gap, not the party on the other pitch", 5, x, () -> x.book(0, 4, 4, 0, 9, 1));
        x.addSeason(9, 9, 2);
        refused("too short on one, too large for the other", 4, x, () -> x.book(0, 4, 4, 0, 9, 1));
    }

    private static void power() {
        check.theme("power");
        CampsiteBooker x = pitches(0, 4, 4, 0, 0, 4, 3, 0, 0, 2, 2, 1);
        x.book(0, 4, 4, 10, 5, 3);
        x.setLimit(0, 13);
        refused("one more than the limit", 3, x, () -> x.book(0, 4, 3, 4, 7, 2));
        check.is("on the limit", 1, x.book(0, 4, 3, 3, 7, 2));
        check.is("in other nights", 2, x.book(0, 4, 3, 13, 9, 2));
        x.setLimit(0, 2);
        check.is("another circuit", 3, x.book(0, 2, 2, 16, 5, 1));
        refused("without power, above the limit", 3, x, () -> x.book(0, 4, 3, 0, 5, 2));
        x.setLimit(0, 10);
        check.is("without power, on the limit", 4, x.book(0, 4, 3, 0, 5, 2));
        x.setLimit(1, 0);
        x.setLimit(0, 0);
        refused("no power at all", 3, x, () -> x.book(0, 2, 2, 1, 59, 1));
        check.is("none is needed", 5, x.book(0, 2, 2, 0, 59, 1));
    }

    private static void stays() {
        check.theme("stays");
        CampsiteBooker x = pitches(0, 4, 4, -1);
        x.setGap(0);
        x.addSeason(10, 20, 3);
        refused("its last night", 4, x, () -> x.book(0, 1, 1, 0, 9, 2));
        refused("its first night", 4, x, () -> x.book(0, 1, 1, 0, 20, 2));
        check.is("ahead", 0, x.book(0, 1, 1, 0, 8, 2));
        check.is("long enough", 1, x.book(0, 1, 1, 0, 12, 3));
        refused("not the whole space", 4, x, () -> x.book(0, 1, 1, 0, 10, 1));
        check.is("the space", 2, x.book(0, 1, 1, 0, 10, 2));
        refused("one side only", 4, x, () -> x.book(0, 1, 1, 0, 15, 2));
        x.addSeason(0, 59, 2);
        x.book(0, 1, 1, 0, 1, 2);
        x.book(0, 1, 1, 0, 57, 2);
        refused("night -1 fills no space", 4, x, () -> x.book(0, 1, 1, 0, 0, 1));
        refused("night 60 fills no space", 4, x, () -> x.book(0, 1, 1, 0, 59, 1));
        x.cancel(0);
        refused("a cancelled one fills no space", 4, x, () -> x.book(0, 1, 1, 0, 9, 1));
    }

    private static void gaps() {
        check.theme("gaps");
        CampsiteBooker x = pitches(0, 2, 2, -1);
        x.book(0, 1, 1, 0, 10, 2);
        refused("a gap of 1 behind", 5, x, () -> x.book(0, 1, 1, 0, 13, 2));
        refused("a gap of 1 ahead", 5, x, () -> x.book(0, 1, 1, 0, 8, 1));
        check.is("a row of 2", 1, x.book(0, 1, 1, 0, 14, 2));
        x.setGap(2);
        check.is("a gap that was there", 1, x.account(5));
        check.is("a gap for a gap", 2, x.book(0, 1, 1, 0, 12, 1));
        check.is("still one", 1, x.account(5));
        check.is("it is filled", 3, x.book(0, 1, 1, 0, 13, 1));
        check.is("none left", 0, x.account(5));
        x.book(0, 1, 1, 0, 19, 2);
        x.setGap(3);
        check.is("a new one by the limit", 1, x.account(5));
        refused("two gaps for one", 5, x, () -> x.book(0, 1, 1, 0, 17, 1));
        x.setGap(1);
        x.addPitch(0, 9, 9, -1);
        check.is("more waste, but no gap", 5, x.book(0, 1, 1, 0, 22, 1));
        check.is("on the other pitch", 1, x.party(5, 6));
        check.is("nights 0 and 1", 6, x.book(0, 1, 1, 0, 1, 1));
        check.is("night 0 alone is no gap", 0, x.party(6, 6));
    }

    private static void oneMove() {
        check.theme("one move");
        CampsiteBooker x = pitches(2, 8, 6, 0);
        x.book(0, 2, 2, 0, 0, 3);
        x.addPitch(0, 4, 2, -1);
        x.setRate(1, 44);
        check.is("number", 1, x.book(2, 8, 6, 0, 2, 2));
        check.same("plan", "0 0 1", plan(x));
        check.same("places", "1 0", places(x));
        check.is("the price stays", 30, x.party(0, 7));
        check.is("a move needs room", 2, x.book(0, 2, 2, 0, 4, 2));
        x.cancel(2);
        refused("no room for the move", 2, x, () -> x.book(2, 8, 6, 0, 3, 2));
        check.same("the latest that was not refused", "", plan(x));
        check.is("one change for all", 4, x.undo() - 2);
        x.undo();
        x.undo();
        check.same("undone", "0", places(x));
    }

    private static void fewestMovesFirst() {
        check.theme("fewest moves first");
        CampsiteBooker x = pitches(0, 2, 2, -1);
        x.book(0, 1, 1, 0, 0, 3);
        x.addPitch(0, 9, 9, -1);
        x.addPitch(0, 8, 8, -1);
        x.book(0, 1, 1, 0, 0, 3);
        check.same("more waste without move", "", plan(x));
        check.same("places", "0 2", places(x));
    }

    private static void begunPartiesStay() {
        check.theme("begun parties");
        CampsiteBooker x = pitches(2, 8, 6, 0);
        x.book(0, 2, 2, 0, 2, 3);
        x.addPitch(0, 4, 2, -1);
        x.advance(3);
        refused("begun", 2, x, () -> x.book(2, 8, 6, 0, 3, 2));
        x.undo();
        x.advance(2);
        check.is("its first night is tonight", 1, x.book(2, 8, 6, 0, 3, 2));
        check.same("plan", "0 0 1", plan(x));
    }

    /** Either of two parties can make room in power, on either of two pitches. */
    private static void lowestPartyThenPitch() {
        check.theme("lowest party, then pitch");
        CampsiteBooker x = pitches(0, 2, 2, 0, 0, 2, 2, 0);
        x.setGap(0);
        x.book(0, 1, 1, 8, 0, 3);
        x.book(0, 1, 1, 8, 0, 3);
        x.addPitch(0, 3, 3, 1);
        x.addPitch(0, 3, 3, 1);
        x.addPitch(2, 9, 9, 0);
        x.book(2, 9, 9, 1, 0, 3);
        check.same("plan", "0 0 2", plan(x));
        x.undo();
        x.setLimit(1, 7);
        refused("no power elsewhere", 3, x, () -> x.book(2, 9, 9, 1, 0, 3));
        x.setLimit(1, 16);
        x.advance(0);
        x.book(0, 3, 3, 0, 1, 1);
        check.is("it takes pitch 2", 2, x.party(2, 6));
        x.book(2, 9, 9, 1, 0, 3);
        check.same("the next pitch", "0 0 3", plan(x));
    }

    private static void twoMoves() {
        check.theme("two moves");
        CampsiteBooker x = pitches(2, 8, 6, -1);
        x.setGap(0);
        x.book(0, 2, 2, 0, 0, 3);
        x.book(0, 2, 2, 0, 4, 3);
        x.addPitch(0, 3, 2, -1);
        x.addPitch(0, 2, 2, -1);
        x.book(2, 8, 6, 0, 2, 4);
        check.same("both to the lowest pitch", "0 0 1, 1 0 1", plan(x));
        check.same("places", "1 1 0", places(x));
        x.undo();
        x.book(0, 3, 2, 0, 4, 3);
        x.book(2, 8, 6, 0, 2, 4);
        check.same("each to one", "0 0 1, 1 0 2", plan(x));
        check.is("the latest move", 2, x.moves());
    }

    private static void changeOfPlaces() {
        check.theme("change of places");
        CampsiteBooker x = pitches(2, 4, 4, -1);
        x.book(0, 2, 2, 0, 0, 4);
        x.addPitch(1, 4, 4, -1);
        x.book(1, 4, 4, 0, 0, 2);
        check.same("places before", "0 1", places(x));
        check.is("number", 2, x.book(2, 4, 4, 0, 2, 3));
        check.same("plan", "0 0 1, 1 1 0", plan(x));
        check.same("places", "1 0 0", places(x));
    }

    /** The party in the way goes where the other one was; the first move is that of the lower party. */
    private static void chainOfMoves() {
        check.theme("chain of moves");
        CampsiteBooker x = pitches(1, 4, 4, -1);
        x.book(0, 2, 2, 0, 0, 4);
        x.addPitch(2, 5, 5, -1);
        x.book(1, 4, 4, 0, 1, 3);
        x.addPitch(0, 2, 2, -1);
        x.book(2, 5, 5, 0, 0, 4);
        check.same("plan", "0 0 2, 1 1 0", plan(x));
        check.same("places", "2 0 1", places(x));
    }

    private static void movesForPower() {
        check.theme("moves for power");
        CampsiteBooker x = pitches(0, 4, 4, 0, 0, 4, 4, 0);
        x.book(0, 2, 2, 10, 5, 2);
        refused("too much power", 3, x, () -> x.book(0, 2, 2, 7, 5, 2));
        x.addPitch(0, 9, 9, 2);
        x.setLimit(2, 9);
        refused("nor elsewhere", 3, x, () -> x.book(0, 2, 2, 10, 5, 2));
        x.setLimit(2, 10);
        x.book(0, 3, 3, 0, 6, 3);
        check.same("places", "0 1", places(x));
        x.book(0, 9, 9, 10, 0, 5);
        check.is("without move", 0, x.moves());
        x.book(0, 9, 9, 7, 7, 3);
        x.setLimit(2, 0);
        refused("a new pitch is asked for power", 3, x, () -> x.book(0, 1, 1, 7, 5, 1));
    }

    /** The new party fills a space only behind a move. */
    private static void movesForSpace() {
        check.theme("moves for space");
        CampsiteBooker x = pitches(0, 4, 4, -1);
        x.book(0, 3, 3, 0, 3, 3);
        x.addPitch(0, 2, 2, -1);
        x.book(0, 2, 2, 0, 7, 3);
        check.same("places before", "0 1", places(x));
        x.addSeason(6, 6, 2);
        check.is("number", 2, x.book(0, 3, 3, 0, 6, 1));
        check.same("plan", "1 1 0", plan(x));
        check.same("places", "0 0 0", places(x));
    }

    /** The first of all moves, of party 0 to pitch 0, is looked at, too. */
    private static void firstOfAllMoves() {
        check.theme("the first of all moves");
        CampsiteBooker x = pitches(0, 4, 4, -1, 2, 4, 4, -1);
        x.book(0, 2, 2, 0, 0, 2);
        x.move(0, 1);
        check.is("number", 1, x.book(2, 2, 2, 0, 0, 2));
        check.same("plan", "0 1 0", plan(x));
    }

    private static void movesForGaps() {
        check.theme("moves for gaps");
        CampsiteBooker x = pitches(0, 4, 4, -1);
        x.book(0, 2, 2, 0, 5, 2);
        x.addPitch(0, 2, 2, -1);
        check.is("number", 1, x.book(0, 4, 4, 0, 8, 2));
        check.same("plan", "0 0 1", plan(x));
        check.is("gaps", 0, x.account(5));
    }

    private static void movedPartyTooShort() {
        check.theme("a moved party too short");
        CampsiteBooker x = pitches(0, 4, 4, -1);
        x.book(0, 2, 2, 0, 5, 2);
        x.addPitch(0, 2, 2, -1);
        x.addSeason(0, 59, 4);
        check.is("number", 1, x.book(0, 4, 4, 0, 5, 4));
        check.same("plan", "0 0 1", plan(x));
    }

    private static void movedPartyNeedsPower() {
        check.theme("a moved party's circuit");
        CampsiteBooker x = pitches(0, 4, 4, -1);
        x.book(0, 2, 2, 0, 5, 2);
        x.addPitch(0, 2, 2, 1);
        x.addPitch(0, 3, 2, 1);
        x.book(0, 2, 2, 9, 6, 2);
        check.is("its pitch", 1, x.party(1, 6));
        x.setLimit(1, 8);
        refused("above the limit without power", 2, x, () -> x.book(0, 4, 4, 0, 5, 2));
        x.setLimit(1, 9);
        check.is("on the limit", 2, x.book(0, 4, 4, 0, 5, 2));
        check.same("plan", "0 0 2", plan(x));
    }

    private static void noThirdMove() {
        check.theme("no third move");
        CampsiteBooker x = pitches(2, 8, 6, -1);
        x.setGap(0);
        x.book(0, 2, 2, 0, 0, 1);
        x.book(0, 2, 2, 0, 2, 1);
        x.book(0, 2, 2, 0, 4, 1);
        x.addPitch(0, 3, 2, -1);
        refused("three in the way", 2, x, () -> x.book(2, 8, 6, 0, 0, 5));
        check.is("two in the way", 3, x.book(2, 8, 6, 0, 0, 4));
        check.same("plan", "0 0 1, 1 0 1", plan(x));
    }
}
