import java.util.NoSuchElementException;

/** Each promise of the document but 11 and 13, whose bookings have tests of their own. */
public final class PromisesTest {
    private static final Class<IllegalArgumentException> ARGUMENT = IllegalArgumentException.class;
    private static final Class<IllegalStateException> STATE = IllegalStateException.class;
    private static final Class<IndexOutOfBoundsException> INDEX = IndexOutOfBoundsException.class;
    private static final Class<UnsupportedOperationException> REFUSED = UnsupportedOperationException.class;
    private static final Class<NoSuchElementException> NONE = NoSuchElementException.class;
    private static final int[] FAR = {Integer.MIN_VALUE, -1000, 1000, Integer.MAX_VALUE};

    private static final Check check = new Check();

    public static void main(String[] args) {
        newObject();
        addPitch();
        pitch();
        setLimit();
        setRate();
        setGap();
        addSeason();
        dropSeason();
        season();
        leastStay();
        refusal();
        party();
        moves();
        moveOf();
        move();
        cancel();
        advance();
        tonight();
        obstacle();
        occupant();
        busyNight();
        firstFree();
        power();
        peak();
        gap();
        account();
        share();
        undo();
        undoEach();
        save();
        restore();
        check.end();
    }

    /** Pitch 0 is big and has circuit 0, pitch 1 is small and has none. */
    private static CampsiteBooker twoPitches() {
        CampsiteBooker x = new CampsiteBooker();
        x.addPitch(2, 8, 6, 0);
        x.addPitch(0, 4, 2, -1);
        return x;
    }

    private static void newObject() {
        check.theme("promise 1");
        CampsiteBooker x = new CampsiteBooker();
        check.same("accounts", "0 0 0 0 0 0 0 0", Check.list(0, 7, x::account));
        check.is("tonight", 0, x.tonight());
        check.same("latest", "fault -1 reason none moves 0", Check.latest(x));
        check.fails("pitch", INDEX, x, () -> x.pitch(0, 0));
        check.fails("party", INDEX, x, () -> x.party(0, 0));
        check.fails("season", INDEX, x, () -> x.season(0, 0));
        check.fails("undo", STATE, x, () -> x.undo());
        check.fails("restore", STATE, x, () -> x.restore());
        check.is("gap limit", 1, x.setGap(1));
        for (int circuit = 0; circuit < 3; circuit++) {
            check.is("limit", 16, x.setLimit(circuit, 16));
        }
    }

    private static void addPitch() {
        check.theme("promise 2");
        CampsiteBooker x = new CampsiteBooker();
        for (int kind : new int[] {-1, 3}) {
            check.fails("kind " + kind, ARGUMENT, x, () -> x.addPitch(kind, 2, 2, 0));
        }
        for (int side : new int[] {1, 13, 0, -2}) {
            check.fails("length " + side, ARGUMENT, x, () -> x.addPitch(0, side, 2, 0));
            check.fails("breadth " + side, ARGUMENT, x, () -> x.addPitch(0, 2, side, 0));
        }
        for (int circuit : new int[] {-2, 3}) {
            check.fails("circuit " + circuit, ARGUMENT, x, () -> x.addPitch(0, 2, 2, circuit));
        }
        for (int far : FAR) {
            check.fails("far kind", ARGUMENT, x, () -> x.addPitch(far, 2, 2, 0));
            check.fails("far length", ARGUMENT, x, () -> x.addPitch(0, far, 2, 0));
            check.fails("far breadth", ARGUMENT, x, () -> x.addPitch(0, 2, far, 0));
            check.fails("far circuit", ARGUMENT, x, () -> x.addPitch(0, 2, 2, far));
        }
        check.is("least", 0, x.addPitch(0, 2, 2, -1));
        check.is("most", 1, x.addPitch(2, 12, 12, 2));
        for (int i = 2; i < 6; i++) {
            check.is("number", i, x.addPitch(1, 2 + i, 12 - i, i - 3));
        }
        check.is("pitches", 6, x.account(0));
        check.is("rate", 10, x.pitch(5, 4));
        check.fails("a seventh", STATE, x, () -> x.addPitch(0, 2, 2, -1));
        check.fails("a wrong seventh", ARGUMENT, x, () -> x.addPitch(0, 2, 2, -2));
    }

    private static void pitch() {
        check.theme("promise 3");
        CampsiteBooker x = twoPitches();
        x.setRate(0, 77);
        check.same("0 without parties", "2 8 6 0 77 0 0", Check.list(0, 6, what -> x.pitch(0, what)));
        check.same("1 without parties", "0 4 2 -1 10 0 0", Check.list(0, 6, what -> x.pitch(1, what)));
        x.book(1, 1, 1, 0, 0, 3);
        x.setGap(0);
        x.book(1, 1, 1, 0, 5, 4);
        check.is("nights", 7, x.pitch(0, 5));
        check.is("gaps above no limit", 0, x.pitch(0, 6));
        x.setGap(2);
        check.is("gaps", 1, x.pitch(0, 6));
        x.setGap(1);
        check.is("gaps above the limit", 0, x.pitch(0, 6));
        x.setGap(5);
        x.cancel(0);
        check.is("nights without a cancelled party", 4, x.pitch(0, 5));
        check.is("no gap ahead of all parties", 0, x.pitch(0, 6));
        for (int what : new int[] {-1, 7, Integer.MIN_VALUE, Integer.MAX_VALUE}) {
            check.fails("what " + what, ARGUMENT, x, () -> x.pitch(0, what));
        }
        for (int number : new int[] {-1, 2, Integer.MIN_VALUE, Integer.MAX_VALUE}) {
            check.fails("pitch " + number, INDEX, x, () -> x.pitch(number, 0));
            check.fails("pitch and what of " + number, INDEX, x, () -> x.pitch(number, 7));
        }
    }

    private static void setLimit() {
        check.theme("promise 4");
        CampsiteBooker x = twoPitches();
        check.is("first", 16, x.setLimit(0, 0));
        check.is("second", 0, x.setLimit(0, 40));
        check.is("another circuit", 16, x.setLimit(2, 7));
        check.is("third", 40, x.setLimit(0, 20));
        x.book(2, 5, 5, 16, 0, 2);
        check.is("lower than what is used", 20, x.setLimit(0, 3));
        check.is("the party stays", 0, x.occupant(0, 1));
        check.is("power", 16, x.power(0, 1));
        for (int limit : new int[] {-1, 41, Integer.MIN_VALUE, Integer.MAX_VALUE}) {
            check.fails("limit " + limit, ARGUMENT, x, () -> x.setLimit(1, limit));
        }
        for (int circuit : new int[] {-1, 3, Integer.MIN_VALUE, Integer.MAX_VALUE}) {
            check.fails("circuit " + circuit, INDEX, x, () -> x.setLimit(circuit, 1));
            check.fails("circuit and limit", INDEX, x, () -> x.setLimit(circuit, 41));
        }
        check.is("unchanged", 16, x.setLimit(1, 5));
    }

    private static void setRate() {
        check.theme("promise 5");
        CampsiteBooker x = twoPitches();
        check.is("first", 10, x.setRate(0, 1));
        check.is("second", 1, x.setRate(0, 99));
        check.is("kept", 99, x.pitch(0, 4));
        check.is("the other", 10, x.pitch(1, 4));
        for (int rate : new int[] {0, 100, -5, Integer.MIN_VALUE, Integer.MAX_VALUE}) {
            check.fails("rate " + rate, ARGUMENT, x, () -> x.setRate(0, rate));
        }
        for (int number : new int[] {-1, 2, Integer.MIN_VALUE, Integer.MAX_VALUE}) {
            check.fails("pitch " + number, INDEX, x, () -> x.setRate(number, 5));
            check.fails("pitch and rate of " + number, INDEX, x, () -> x.setRate(number, 0));
        }
    }

    private static void setGap() {
        check.theme("promise 6");
        CampsiteBooker x = new CampsiteBooker();
        check.is("first", 1, x.setGap(5));
        check.is("second", 5, x.setGap(0));
        for (int limit : new int[] {-1, 6, Integer.MIN_VALUE, Integer.MAX_VALUE}) {
            check.fails("limit " + limit, ARGUMENT, x, () -> x.setGap(limit));
        }
        check.is("unchanged", 0, x.setGap(3));
    }

    private static void addSeason() {
        check.theme("promise 7");
        CampsiteBooker x = new CampsiteBooker();
        check.fails("first -1", ARGUMENT, x, () -> x.addSeason(-1, 5, 2));
        check.fails("first 60", ARGUMENT, x, () -> x.addSeason(60, 60, 2));
        check.fails("last 60", ARGUMENT, x, () -> x.addSeason(5, 60, 2));
        check.fails("last before first", ARGUMENT, x, () -> x.addSeason(5, 4, 2));
        check.fails("stay 0", ARGUMENT, x, () -> x.addSeason(5, 5, 0));
        check.fails("stay 15", ARGUMENT, x, () -> x.addSeason(5, 5, 15));
        for (int far : FAR) {
            check.fails("far first", ARGUMENT, x, () -> x.addSeason(far, 5, 2));
            check.fails("far last", ARGUMENT, x, () -> x.addSeason(0, far, 2));
            check.fails("far stay", ARGUMENT, x, () -> x.addSeason(0, 5, far));
        }
        check.is("all nights", 0, x.addSeason(0, 59, 1));
        check.is("one night", 1, x.addSeason(59, 59, 14));
        check.is("the same again", 2, x.addSeason(0, 59, 1));
        check.is("a fourth", 3, x.addSeason(7, 8, 3));
        check.fails("a fifth", STATE, x, () -> x.addSeason(0, 0, 1));
        check.fails("a wrong fifth", ARGUMENT, x, () -> x.addSeason(0, 0, 0));
        check.same("third", "0 59 1", Check.list(0, 2, what -> x.season(2, what)));
        check.same("fourth", "7 8 3", Check.list(0, 2, what -> x.season(3, what)));
    }

    private static void dropSeason() {
        check.theme("promise 8");
        CampsiteBooker x = new CampsiteBooker();
        for (int i = 0; i < 4; i++) {
            x.addSeason(i, 10 + i, 2 + i);
        }
        check.fails("-1", INDEX, x, () -> x.dropSeason(-1));
        check.fails("4", INDEX, x, () -> x.dropSeason(4));
        check.fails("far", INDEX, x, () -> x.dropSeason(Integer.MAX_VALUE));
        check.fails("far below", INDEX, x, () -> x.dropSeason(Integer.MIN_VALUE));
        check.is("the second", 3, x.dropSeason(1));
        check.same("firsts", "0 2 3 IndexOutOfBoundsException", Check.list(0, 3, s -> x.season(s, 0)));
        check.same("lasts", "10 12 13 IndexOutOfBoundsException", Check.list(0, 3, s -> x.season(s, 1)));
        check.same("stays", "2 4 5 IndexOutOfBoundsException", Check.list(0, 3, s -> x.season(s, 2)));
        check.is("the last", 2, x.dropSeason(2));
        check.is("the first", 1, x.dropSeason(0));
        check.is("which remains", 2, x.season(0, 0));
        check.is("a new one", 1, x.addSeason(20, 21, 9));
        check.is("that again", 1, x.dropSeason(1));
        check.is("the only one", 0, x.dropSeason(0));
        check.fails("none", INDEX, x, () -> x.dropSeason(0));
        check.is("nothing asked", 1, x.leastStay(2, 1));
    }

    private static void season() {
        check.theme("promise 9");
        CampsiteBooker x = new CampsiteBooker();
        x.addSeason(3, 44, 13);
        check.same("numbers", "3 44 13", Check.list(0, 2, what -> x.season(0, what)));
        check.fails("what 3", ARGUMENT, x, () -> x.season(0, 3));
        check.fails("what -1", ARGUMENT, x, () -> x.season(0, -1));
        for (int number : new int[] {-1, 1, Integer.MIN_VALUE, Integer.MAX_VALUE}) {
            check.fails("season " + number, INDEX, x, () -> x.season(number, 0));
            check.fails("season and what of " + number, INDEX, x, () -> x.season(number, 3));
        }
    }

    private static void leastStay() {
        check.theme("promise 10");
        CampsiteBooker x = new CampsiteBooker();
        check.is("without seasons", 1, x.leastStay(0, 14));
        x.addSeason(10, 20, 5);
        x.addSeason(15, 30, 3);
        x.addSeason(18, 18, 9);
        check.is("ahead", 1, x.leastStay(8, 2));
        check.is("with the first night", 5, x.leastStay(8, 3));
        check.is("the greatest of two", 5, x.leastStay(15, 3));
        check.is("the greatest of three", 9, x.leastStay(15, 4));
        check.is("behind the first", 3, x.leastStay(21, 1));
        check.is("with the last night", 3, x.leastStay(30, 1));
        check.is("behind all", 1, x.leastStay(31, 1));
        check.is("round all", 9, x.leastStay(12, 14));
        check.is("up to night 59", 1, x.leastStay(46, 14));
        check.is("night 59", 1, x.leastStay(59, 1));
        check.fails("behind 59", ARGUMENT, x, () -> x.leastStay(47, 14));
        check.fails("nights 0", ARGUMENT, x, () -> x.leastStay(5, 0));
        check.fails("nights 15", ARGUMENT, x, () -> x.leastStay(5, 15));
        check.fails("first -1", ARGUMENT, x, () -> x.leastStay(-1, 2));
        check.fails("first 60", ARGUMENT, x, () -> x.leastStay(60, 1));
        for (int far : FAR) {
            check.fails("far first", ARGUMENT, x, () -> x.leastStay(far, 1));
            check.fails("far nights", ARGUMENT, x, () -> x.leastStay(0, far));
        }
    }

    private static void refusal() {
        check.theme("promise 15");
        CampsiteBooker x = new CampsiteBooker();
        check.fails("none", NONE, x, () -> x.refusal());
        check.fails("wrong numbers", ARGUMENT, x, () -> x.book(3, 1, 1, 0, 0, 1));
        check.fails("refuse", REFUSED, () -> x.book(0, 1, 1, 0, 0, 1));
        check.is("without pitches", 1, x.refusal());
        x.addPitch(0, 2, 2, -1);
        x.book(0, 1, 1, 0, 0, 1);
        check.is("behind a booking", 1, x.refusal());
        check.fails("refuse again", REFUSED, () -> x.book(0, 1, 1, 0, 0, 1));
        check.is("the latest", 2, x.refusal());
        check.fails("wrong numbers again", ARGUMENT, x, () -> x.book(3, 1, 1, 0, 0, 1));
        x.save();
        check.fails("a third", REFUSED, () -> x.book(1, 1, 1, 0, 5, 1));
        x.restore();
        check.is("behind restore", 1, x.refusal());
    }

    private static void party() {
        check.theme("promise 16");
        CampsiteBooker x = twoPitches();
        x.setRate(0, 20);
        x.book(2, 7, 5, 16, 50, 10);
        x.book(0, 2, 4, 0, 0, 1);
        check.same("first", "2 7 5 16 50 10 0 360 1 0", Check.list(0, 9, what -> x.party(0, what)));
        check.same("second", "0 2 4 0 0 1 1 10 1 0", Check.list(0, 9, what -> x.party(1, what)));
        x.cancel(1);
        x.setRate(1, 99);
        check.same("cancelled", "0 2 4 0 0 1 1 10 0 10", Check.list(0, 9, what -> x.party(1, what)));
        for (int what : new int[] {-1, 10, Integer.MIN_VALUE, Integer.MAX_VALUE}) {
            check.fails("what " + what, ARGUMENT, x, () -> x.party(0, what));
        }
        for (int number : new int[] {-1, 2, Integer.MIN_VALUE, Integer.MAX_VALUE}) {
            check.fails("party " + number, INDEX, x, () -> x.party(number, 0));
            check.fails("party and what of " + number, INDEX, x, () -> x.party(number, 10));
        }
    }

    /** Party 0 was on pitch 0 and went to pitch 1 for party 1. */
    private static CampsiteBooker oneMove() {
        CampsiteBooker x = new CampsiteBooker();
        x.addPitch(2, 8, 6, 0);
        x.book(0, 2, 2, 0, 0, 3);
        x.addPitch(0, 4, 2, -1);
        x.book(2, 8, 6, 0, 2, 2);
        return x;
    }

    private static void moves() {
        check.theme("promise 17");
        CampsiteBooker x = oneMove();
        check.is("one", 1, x.moves());
        check.fails("refused", REFUSED, () -> x.book(2, 8, 6, 0, 2, 2));
        check.fails("wrong", ARGUMENT, x, () -> x.book(2, 8, 6, 0, 2, 0));
        check.is("still one", 1, x.moves());
        x.undo();
        check.is("behind undo", 1, x.moves());
        x.book(0, 1, 1, 0, 20, 1);
        check.is("behind a booking without", 0, x.moves());
    }

    private static void moveOf() {
        check.theme("promise 18");
        CampsiteBooker x = oneMove();
        check.same("the move", "0 0 1", Check.list(0, 2, part -> x.moveOf(0, part)));
        check.fails("part 3", ARGUMENT, x, () -> x.moveOf(0, 3));
        check.fails("part -1", ARGUMENT, x, () -> x.moveOf(0, -1));
        for (int number : new int[] {-1, 1, 2, Integer.MIN_VALUE, Integer.MAX_VALUE}) {
            check.fails("move " + number, NONE, x, () -> x.moveOf(number, 0));
            check.fails("move and part of " + number, NONE, x, () -> x.moveOf(number, 3));
        }
        x.undo();
        x.move(0, 1);
        check.same("behind undo and move", "0 0 1", Check.list(0, 2, part -> x.moveOf(0, part)));
        x.book(0, 1, 1, 0, 20, 1);
        check.fails("no move", NONE, x, () -> x.moveOf(0, 0));
    }

    private static void move() {
        check.theme("promise 19");
        CampsiteBooker x = new CampsiteBooker();
        x.addPitch(1, 4, 4, 0);
        x.addPitch(1, 4, 3, 0);
        x.addPitch(0, 2, 2, -1);
        x.setRate(1, 50);
        x.book(1, 4, 4, 10, 2, 3);
        x.book(1, 3, 4, 6, 4, 3);
        x.book(0, 2, 2, 0, 5, 5);
        for (int number : new int[] {-1, 3, Integer.MIN_VALUE, Integer.MAX_VALUE}) {
            check.fails("party " + number, INDEX, x, () -> x.move(number, 0));
            check.fails("pitch " + number, INDEX, x, () -> x.move(0, number));
        }
        check.fails("its own pitch", STATE, x, () -> x.move(0, 0));
        check.fails("no fit", REFUSED, x, () -> x.move(0, 1));
        check.fails("taken", REFUSED, x, () -> x.move(1, 0));
        check.is("to a larger one", 2, x.move(2, 0));
        check.is("its pitch", 0, x.party(2, 6));
        check.is("its price", 50, x.party(2, 7));
        check.same("who", "-1 -1 0 0 0 2 2 2 2 2 -1", Check.list(0, 10, n -> x.occupant(0, n)));
        check.is("changes", 7, x.undo());
        check.is("back", 2, x.party(2, 6));
        x.setLimit(0, 5);
        check.fails("a limit for a party without power", REFUSED, x, () -> x.move(2, 0));
        x.setLimit(0, 6);
        check.is("on the limit", 2, x.move(2, 0));
        x.setLimit(0, 3);
        check.is("away from its circuit", 0, x.move(2, 2));
        x.addSeason(0, 59, 14);
        x.setGap(5);
        x.setLimit(0, 16);
        x.cancel(1);
        check.fails("cancelled", STATE, x, () -> x.move(1, 0));
        check.fails("cancelled, no such pitch", INDEX, x, () -> x.move(1, 3));
        check.is("too short, and a gap", 2, x.move(2, 1));
        x.advance(2);
        check.is("tonight is its first night", 1, x.move(2, 0));
        x.advance(4);
        check.fails("begun", STATE, x, () -> x.move(2, 1));
        samePower();
    }

    private static void samePower() {
        CampsiteBooker x = new CampsiteBooker();
        x.addPitch(0, 2, 2, 0);
        x.addPitch(0, 2, 2, 0);
        x.book(0, 1, 1, 16, 0, 2);
        check.is("its own power is not counted twice", 0, x.move(0, 1));
        x.setLimit(0, 15);
        check.fails("more than the limit alone", REFUSED, x, () -> x.move(0, 0));
    }

    private static void cancel() {
        check.theme("promise 20");
        CampsiteBooker x = new CampsiteBooker();
        x.addPitch(0, 2, 2, 0);
        x.setRate(0, 11);
        x.advance(3);
        int[] firsts = {10, 9, 6, 5, 4, 3};
        int[] fees = {0, 5, 5, 11, 11, 11};
        for (int i = 0; i < firsts.length; i++) {
            x.setGap(0);
            x.book(0, 1, 1, 0, firsts[i], 1);
        }
        x.book(0, 1, 1, 0, 50, 1);
        for (int i = 0; i < firsts.length; i++) {
            check.is("first night " + firsts[i], fees[i], x.cancel(i));
            check.is("its fee", fees[i], x.party(i, 9));
            check.is("its state", 0, x.party(i, 8));
            check.is("its pitch", -1, x.occupant(0, firsts[i]));
            int party = i;
            check.fails("again", STATE, x, () -> x.cancel(party));
        }
        for (int number : new int[] {-1, 7, Integer.MIN_VALUE, Integer.MAX_VALUE}) {
            check.fails("party " + number, INDEX, x, () -> x.cancel(number));
        }
        check.is("all fees", 43, x.account(4));
        x.advance(48);
        check.fails("begun", STATE, x, () -> x.cancel(6));
        check.is("it stays", 6, x.occupant(0, 50));
    }

    private static void advance() {
        check.theme("promise 21");
        CampsiteBooker x = new CampsiteBooker();
        x.addPitch(0, 2, 2, 0);
        x.addPitch(0, 2, 2, 0);
        x.setGap(0);
        x.book(0, 1, 1, 0, 0, 5);
        x.book(0, 1, 1, 0, 2, 1);
        x.book(0, 1, 1, 0, 4, 1);
        x.book(0, 1, 1, 0, 5, 1);
        x.book(0, 1, 1, 0, 59, 1);
        x.cancel(3);
        check.is("no night", 0, x.advance(0));
        check.is("nights 0 and 1", 1, x.advance(2));
        check.is("tonight", 2, x.tonight());
        check.is("nights 2 to 5, and a cancelled one", 2, x.advance(4));
        check.fails("-1", ARGUMENT, x, () -> x.advance(-1));
        check.fails("beyond 60", ARGUMENT, x, () -> x.advance(55));
        for (int far : FAR) {
            check.fails("far", ARGUMENT, x, () -> x.advance(far));
        }
        check.is("up to 60", 1, x.advance(54));
        check.is("tonight at the end", 60, x.tonight());
        check.is("nothing left", 0, x.advance(0));
        check.fails("1 more", ARGUMENT, x, () -> x.advance(1));
        check.is("nights that are over", 0, x.occupant(0, 0));
    }

    private static void tonight() {
        check.theme("promise 22");
        CampsiteBooker x = new CampsiteBooker();
        check.is("at first", 0, x.tonight());
        x.advance(7);
        x.advance(5);
        check.is("behind two calls", 12, x.tonight());
        x.undo();
        check.is("behind undo", 7, x.tonight());
    }

    private static void obstacle() {
        check.theme("promise 23");
        CampsiteBooker x = new CampsiteBooker();
        x.addPitch(1, 4, 4, 0);
        x.addPitch(1, 4, 3, 0);
        x.addPitch(0, 4, 4, 0);
        x.addPitch(1, 4, 4, -1);
        x.book(1, 3, 4, 10, 4, 3);
        x.setLimit(0, 20);
        x.book(1, 4, 4, 10, 6, 4);
        check.same("a party with power", "0 1 1 1", Check.list(0, 3, p -> x.obstacle(1, p)));
        check.same("of the first", "2 0 1 1", Check.list(0, 3, p -> x.obstacle(0, p)));
        x.setLimit(0, 19);
        check.same("too much power", "2 3 1 1", Check.list(0, 3, p -> x.obstacle(0, p)));
        check.same("also on its own pitch", "3 1 1 1", Check.list(0, 3, p -> x.obstacle(1, p)));
        x.setLimit(0, 20);
        x.addSeason(9, 9, 5);
        check.same("too short", "4 1 1 1", Check.list(0, 3, p -> x.obstacle(1, p)));
        x.cancel(1);
        check.same("of a cancelled one", "4 1 1 1", Check.list(0, 3, p -> x.obstacle(1, p)));
        x.dropSeason(0);
        check.same("of a cancelled one without season", "0 1 1 1", Check.list(0, 3, p -> x.obstacle(1, p)));
        for (int number : new int[] {-1, 2, Integer.MIN_VALUE, Integer.MAX_VALUE}) {
            check.fails("party " + number, INDEX, x, () -> x.obstacle(number, 0));
        }
        for (int number : new int[] {-1, 4, Integer.MIN_VALUE, Integer.MAX_VALUE}) {
            check.fails("pitch " + number, INDEX, x, () -> x.obstacle(0, number));
        }
        powerBeside();
        obstacleOfGaps();
        obstacleInSpaces();
    }

    private static void powerBeside() {
        CampsiteBooker x = new CampsiteBooker();
        x.addPitch(0, 2, 2, 0);
        x.addPitch(0, 2, 2, 0);
        x.book(0, 1, 1, 10, 5, 1);
        x.book(0, 1, 1, 10, 4, 1);
        x.book(0, 1, 1, 10, 6, 1);
        check.same("power in the nights beside does not count", "0 0 0",
                Check.list(0, 2, q -> x.obstacle(q, 1)));
    }

    private static void obstacleOfGaps() {
        CampsiteBooker x = new CampsiteBooker();
        x.addPitch(0, 2, 2, -1);
        x.addPitch(0, 2, 2, -1);
        x.book(0, 1, 1, 0, 5, 2);
        x.book(0, 1, 1, 0, 9, 2);
        x.setGap(0);
        x.book(0, 1, 1, 0, 12, 1);
        check.same("no gap limit", "0 0", Check.list(0, 1, p -> x.obstacle(2, p)));
        x.setGap(1);
        check.same("a gap of 1", "5 0", Check.list(0, 1, p -> x.obstacle(2, p)));
        check.same("with the party nowhere there is none", "5 0", Check.list(0, 1, p -> x.obstacle(1, p)));
        x.setGap(5);
        check.same("two gaps instead of one", "5 0", Check.list(0, 1, p -> x.obstacle(1, p)));
        x.book(0, 1, 1, 0, 7, 2);
        x.move(3, 1);
        x.cancel(1);
        check.same("a gap instead of another", "0 0", Check.list(0, 1, p -> x.obstacle(3, p)));
        x.setGap(4);
        check.same("a gap instead of a row", "5 0", Check.list(0, 1, p -> x.obstacle(3, p)));
        x.advance(20);
        check.same("nights that are over count", "5 0", Check.list(0, 1, p -> x.obstacle(3, p)));
    }

    private static void obstacleInSpaces() {
        CampsiteBooker x = new CampsiteBooker();
        x.addPitch(0, 2, 2, -1);
        x.book(0, 1, 1, 0, 0, 2);
        x.book(0, 1, 1, 0, 2, 2);
        x.book(0, 1, 1, 0, 4, 2);
        x.book(0, 1, 1, 0, 58, 2);
        x.addSeason(0, 59, 3);
        check.same("the middle one fills a space", "4 0 4 4", Check.list(0, 3, q -> x.obstacle(q, 0)));
    }

    private static void occupant() {
        check.theme("promise 24");
        CampsiteBooker x = twoPitches();
        x.book(2, 3, 3, 0, 58, 2);
        x.book(2, 3, 3, 0, 0, 1);
        x.book(0, 2, 2, 0, 0, 3);
        check.same("start of 0", "1 -1 -1 -1", Check.list(0, 3, n -> x.occupant(0, n)));
        check.same("start of 1", "2 2 2 -1", Check.list(0, 3, n -> x.occupant(1, n)));
        check.same("end of 0", "-1 0 0", Check.list(57, 59, n -> x.occupant(0, n)));
        x.cancel(0);
        check.same("cancelled", "-1 -1 -1", Check.list(57, 59, n -> x.occupant(0, n)));
        for (int number : new int[] {-1, 2, Integer.MIN_VALUE, Integer.MAX_VALUE}) {
            check.fails("pitch " + number, INDEX, x, () -> x.occupant(number, 0));
        }
        for (int night : new int[] {-1, 60, Integer.MIN_VALUE, Integer.MAX_VALUE}) {
            check.fails("night " + night, INDEX, x, () -> x.occupant(0, night));
        }
    }

    private static void busyNight() {
        check.theme("promise 25");
        CampsiteBooker x = twoPitches();
        x.book(2, 3, 3, 0, 58, 2);
        x.book(2, 3, 3, 0, 0, 1);
        x.book(2, 3, 3, 0, 10, 2);
        check.same("nights", "0 10 11 58 59 none", Check.list(0, 5, i -> x.busyNight(0, i)));
        check.fails("-1", NONE, x, () -> x.busyNight(0, -1));
        check.fails("5", NONE, x, () -> x.busyNight(0, 5));
        check.fails("60", NONE, x, () -> x.busyNight(0, 60));
        check.fails("far", NONE, x, () -> x.busyNight(0, Integer.MAX_VALUE));
        check.fails("far below", NONE, x, () -> x.busyNight(0, Integer.MIN_VALUE));
        check.fails("an empty pitch", NONE, x, () -> x.busyNight(1, 0));
        for (int number : new int[] {-1, 2, Integer.MIN_VALUE, Integer.MAX_VALUE}) {
            check.fails("pitch " + number, INDEX, x, () -> x.busyNight(number, 0));
        }
        x.cancel(2);
        check.same("without a cancelled one", "0 58 59 none", Check.list(0, 3, i -> x.busyNight(0, i)));
    }

    private static void firstFree() {
        check.theme("promise 26");
        CampsiteBooker x = twoPitches();
        x.setGap(0);
        x.book(2, 3, 3, 0, 2, 2);
        x.book(2, 3, 3, 0, 5, 1);
        x.book(2, 3, 3, 0, 50, 5);
        check.same("from 0", "0 0 6 6", Check.list(1, 4, n -> x.firstFree(0, 0, n)));
        check.same("from 1", "1 6 6 6", Check.list(1, 4, n -> x.firstFree(0, 1, n)));
        check.same("from 3", "4 6 6 6", Check.list(1, 4, n -> x.firstFree(0, 3, n)));
        check.same("from 46", "46 46 46 46 55 none", Check.list(1, 6, n -> x.firstFree(0, 46, n)));
        check.same("from 56", "56 56 56 56 none", Check.list(1, 5, n -> x.firstFree(0, 56, n)));
        check.is("night 59", 59, x.firstFree(0, 59, 1));
        check.fails("two from night 59", NONE, x, () -> x.firstFree(0, 59, 2));
        x.advance(10);
        check.is("nights that are over", 0, x.firstFree(0, 0, 2));
        for (int number : new int[] {-1, 2, Integer.MIN_VALUE, Integer.MAX_VALUE}) {
            check.fails("pitch " + number, INDEX, x, () -> x.firstFree(number, 0, 1));
            check.fails("pitch and from of " + number, INDEX, x, () -> x.firstFree(number, 60, 1));
        }
        for (int from : new int[] {-1, 60, Integer.MIN_VALUE, Integer.MAX_VALUE}) {
            check.fails("from " + from, ARGUMENT, x, () -> x.firstFree(0, from, 1));
        }
        for (int nights : new int[] {-1, 0, 15, Integer.MIN_VALUE, Integer.MAX_VALUE}) {
            check.fails("nights " + nights, ARGUMENT, x, () -> x.firstFree(0, 55, nights));
        }
    }

    private static void power() {
        check.theme("promise 27");
        CampsiteBooker x = new CampsiteBooker();
        x.addPitch(0, 2, 2, 1);
        x.addPitch(0, 2, 2, 1);
        x.addPitch(0, 2, 2, 2);
        x.book(0, 1, 1, 6, 0, 3);
        x.book(0, 1, 1, 5, 2, 2);
        x.book(0, 1, 1, 16, 2, 1);
        check.same("circuit 1", "6 6 11 5 0", Check.list(0, 4, n -> x.power(1, n)));
        check.same("circuit 2", "0 0 16 0 0", Check.list(0, 4, n -> x.power(2, n)));
        check.same("circuit 0", "0 0 0 0 0", Check.list(0, 4, n -> x.power(0, n)));
        x.cancel(0);
        check.same("behind cancel", "0 0 5 5 0", Check.list(0, 4, n -> x.power(1, n)));
        for (int number : new int[] {-1, 3, Integer.MIN_VALUE, Integer.MAX_VALUE}) {
            check.fails("circuit " + number, INDEX, x, () -> x.power(number, 0));
        }
        for (int night : new int[] {-1, 60, Integer.MIN_VALUE, Integer.MAX_VALUE}) {
            check.fails("night " + night, INDEX, x, () -> x.power(1, night));
        }
    }

    private static void peak() {
        check.theme("promise 28");
        CampsiteBooker x = new CampsiteBooker();
        x.addPitch(0, 2, 2, 1);
        x.addPitch(0, 2, 2, 1);
        x.addPitch(0, 2, 2, -1);
        x.book(0, 1, 1, 0, 20, 2);
        check.fails("no power", NONE, x, () -> x.peak(1));
        x.book(0, 1, 1, 3, 50, 2);
        check.is("one", 50, x.peak(1));
        x.book(0, 1, 1, 3, 40, 2);
        check.is("the first of two", 40, x.peak(1));
        x.book(0, 1, 1, 1, 51, 9);
        check.is("two at once", 51, x.peak(1));
        x.cancel(2);
        x.cancel(3);
        check.is("behind cancel", 50, x.peak(1));
        x.book(0, 1, 1, 9, 59, 1);
        check.is("night 59", 59, x.peak(1));
        x.cancel(4);
        x.cancel(1);
        x.book(0, 1, 1, 1, 0, 1);
        check.is("night 0, power 1", 0, x.peak(1));
        check.fails("another circuit", NONE, x, () -> x.peak(0));
        for (int number : new int[] {-1, 3, Integer.MIN_VALUE, Integer.MAX_VALUE}) {
            check.fails("circuit " + number, INDEX, x, () -> x.peak(number));
        }
    }

    private static void gap() {
        check.theme("promise 29");
        CampsiteBooker x = new CampsiteBooker();
        x.addPitch(0, 2, 2, -1);
        x.addPitch(0, 2, 2, -1);
        x.setGap(0);
        int[] firsts = {3, 7, 10, 17, 19};
        for (int first : firsts) {
            x.book(0, 1, 1, 0, first, 1);
        }
        check.same("limit 0", "none", Check.list(0, 0, g -> x.gap(0, g, false)));
        x.setGap(1);
        check.same("limit 1", "18 none", Check.list(0, 1, g -> x.gap(0, g, false)));
        x.setGap(3);
        check.same("limit 3, first nights", "4 8 18 none", Check.list(0, 3, g -> x.gap(0, g, false)));
        check.same("limit 3, last nights", "6 9 18 none", Check.list(0, 3, g -> x.gap(0, g, true)));
        x.setGap(5);
        check.same("limit 5", "4 8 18 none", Check.list(0, 3, g -> x.gap(0, g, false)));
        x.cancel(1);
        check.same("a row of 6", "18 none", Check.list(0, 1, g -> x.gap(0, g, false)));
        x.advance(30);
        check.same("nights that are over", "18 none", Check.list(0, 1, g -> x.gap(0, g, true)));
        check.fails("-1", NONE, x, () -> x.gap(0, -1, true));
        check.fails("far", NONE, x, () -> x.gap(0, Integer.MAX_VALUE, false));
        check.fails("an empty pitch", NONE, x, () -> x.gap(1, 0, false));
        for (int number : new int[] {-1, 2, Integer.MIN_VALUE, Integer.MAX_VALUE}) {
            check.fails("pitch " + number, INDEX, x, () -> x.gap(number, 0, true));
        }
    }

    private static void account() {
        check.theme("promise 30");
        CampsiteBooker x = twoPitches();
        x.addSeason(20, 30, 2);
        x.setGap(2);
        x.book(2, 3, 3, 0, 0, 2);
        x.book(2, 3, 3, 4, 5, 1);
        x.setGap(3);
        x.book(0, 2, 2, 0, 5, 3);
        x.book(0, 2, 2, 0, 11, 3);
        x.book(0, 2, 2, 0, 40, 3);
        x.cancel(3);
        x.cancel(2);
        check.same("accounts", "2 3 2 64 15 1 6 1", Check.list(0, 7, x::account));
        for (int what : new int[] {-1, 8, Integer.MIN_VALUE, Integer.MAX_VALUE}) {
            check.fails("what " + what, ARGUMENT, x, () -> x.account(what));
        }
    }

    private static void share() {
        check.theme("promise 31");
        CampsiteBooker x = new CampsiteBooker();
        check.fails("no pitches", ArithmeticException.class, x, () -> x.share());
        x.addPitch(0, 2, 2, -1);
        check.same("empty", "0.0", Double.toString(x.share()));
        x.book(0, 1, 1, 0, 3, 7);
        check.same("7 of 60", Double.toString(7.0 / 60.0), Double.toString(x.share()));
        x.addPitch(0, 2, 2, -1);
        x.addPitch(0, 2, 2, -1);
        check.same("7 of 180", Double.toString(7.0 / 180.0), Double.toString(x.share()));
        x.book(0, 1, 1, 0, 3, 13);
        check.same("20 of 180", Double.toString(20.0 / 180.0), Double.toString(x.share()));
        x.cancel(0);
        check.same("13 of 180", Double.toString(13.0 / 180.0), Double.toString(x.share()));
    }

    private static void undo() {
        check.theme("promise 32");
        CampsiteBooker x = new CampsiteBooker();
        check.fails("nothing", STATE, x, () -> x.undo());
        for (int i = 0; i < 11; i++) {
            x.advance(1);
        }
        for (int i = 7; i >= 4; i--) {
            check.is("left", i, x.undo());
            check.is("tonight", i, x.tonight() - 3);
        }
        x.advance(2);
        check.is("a change in between", 4, x.undo());
        check.is("tonight", 7, x.tonight());
        for (int i = 3; i >= 0; i--) {
            check.is("left", i, x.undo());
        }
        check.is("the earliest that is kept", 3, x.tonight());
        check.fails("no more", STATE, x, () -> x.undo());
        x.advance(0);
        check.is("a change that changes nothing", 0, x.undo());
        check.fails("a call that throws is none", ARGUMENT, x, () -> x.advance(-1));
        check.fails("still no more", STATE, x, () -> x.undo());
        stayBehindUndo();
    }

    private static void stayBehindUndo() {
        CampsiteBooker x = oneMove();
        check.fails("refuse", REFUSED, () -> x.book(2, 8, 6, 0, 2, 2));
        x.append('t');
        x.append('q');
        check.fails("fault", ARGUMENT, () -> x.readBooking());
        x.append('c');
        String latest = Check.latest(x);
        check.is("the booking is undone", 3, x.undo());
        check.same("latest", latest, Check.latest(x));
        check.is("parties", 1, x.account(1));
        check.is("the moved one is back", 0, x.party(0, 6));
        check.is("the number is given back", 1, x.book(0, 1, 1, 0, 30, 1));
        for (char c : "2x2@40+1".toCharArray()) {
            x.append(c);
        }
        x.undo();
        x.undo();
        x.undo();
        check.is("the buffer has stayed", 0, x.readBooking());
        check.is("its kind", 1, x.party(0, 0));
    }

    /** A change of each method is undone. */
    private static void undoEach() {
        check.theme("promise 32, each change");
        CampsiteBooker x = twoPitches();
        x.addSeason(5, 9, 2);
        x.addSeason(7, 15, 3);
        x.book(0, 2, 2, 0, 0, 3);
        undoOne(x, "addPitch", () -> x.addPitch(0, 3, 3, 0));
        undoOne(x, "setRate", () -> x.setRate(0, 33));
        undoOne(x, "setGap", () -> x.setGap(5));
        undoOne(x, "addSeason", () -> x.addSeason(1, 2, 3));
        undoOne(x, "dropSeason", () -> x.dropSeason(0));
        undoOne(x, "move", () -> x.move(0, 0));
        undoOne(x, "cancel", () -> x.cancel(0));
        undoOne(x, "advance", () -> x.advance(1));
        undoOne(x, "book", () -> x.book(0, 2, 2, 0, 50, 3));
        undoOne(x, "readBooking", () -> {
            for (char c : "t2x2@50+3".toCharArray()) {
                x.append(c);
            }
            x.readBooking();
        });
        undoOne(x, "setLimit", () -> x.setLimit(0, 9));
        check.is("the limit", 16, x.setLimit(0, 16));
        check.is("the gap limit", 1, x.setGap(1));
    }

    private static void undoOne(CampsiteBooker x, String what, Check.Call call) {
        x.save();
        x.restore();
        String before = Check.state(x);
        call.run();
        check.is("it was the only change: " + what, 0, x.undo());
        check.same("the state behind " + what, before, Check.state(x));
    }

    private static void save() {
        check.theme("promise 33");
        CampsiteBooker x = twoPitches();
        x.advance(1);
        x.save();
        check.is("save is no change and forgets none", 2, x.undo());
        x.undo();
        x.restore();
        check.is("the snapshot", 1, x.tonight());
        check.is("pitches", 2, x.account(0));
        x.advance(5);
        x.save();
        x.advance(5);
        x.restore();
        check.is("in place of the earlier one", 6, x.tonight());
    }

    private static void restore() {
        check.theme("promise 34");
        CampsiteBooker x = oneMove();
        x.addSeason(3, 4, 5);
        x.setLimit(1, 22);
        x.setGap(3);
        x.advance(1);
        String saved = Check.state(x);
        x.save();
        x.addPitch(0, 9, 9, 1);
        x.setRate(0, 55);
        x.dropSeason(0);
        x.setLimit(1, 33);
        x.setGap(4);
        x.cancel(1);
        x.advance(1);
        x.restore();
        check.same("the state", saved, Check.state(x));
        check.is("the limit", 22, x.setLimit(1, 22));
        check.is("the gap limit", 3, x.setGap(3));
        x.undo();
        x.undo();
        check.fails("the changes are forgotten", STATE, x, () -> x.undo());
        x.addSeason(7, 8, 1);
        x.restore();
        check.same("once more", saved, Check.state(x));
        otherRows();
        stayBehindRestore();
    }

    /** Behind undo the numbers are given to others, and restore brings the first ones back. */
    private static void otherRows() {
        CampsiteBooker x = new CampsiteBooker();
        x.addPitch(1, 5, 4, 2);
        x.setRate(0, 66);
        x.addSeason(3, 9, 2);
        x.book(1, 3, 2, 7, 20, 5);
        x.cancel(0);
        x.book(1, 2, 3, 9, 30, 4);
        String saved = Check.state(x);
        x.save();
        for (int i = 0; i < 6; i++) {
            x.undo();
        }
        x.addPitch(2, 9, 8, -1);
        x.addSeason(1, 2, 13);
        x.book(2, 1, 8, 0, 5, 1);
        x.book(0, 9, 1, 0, 6, 2);
        x.restore();
        check.same("all numbers", saved, Check.state(x));
    }

    private static void stayBehindRestore() {
        CampsiteBooker x = new CampsiteBooker();
        x.save();
        x.addPitch(2, 8, 6, 0);
        x.book(0, 2, 2, 0, 0, 3);
        x.addPitch(0, 4, 2, -1);
        x.book(2, 8, 6, 0, 2, 2);
        check.fails("refuse", REFUSED, () -> x.book(2, 8, 6, 0, 2, 2));
        x.append('m');
        x.append('t');
        check.fails("fault", ARGUMENT, () -> x.readBooking());
        x.append('m');
        x.append('3');
        x.restore();
        check.same("latest", "fault 1 reason 2 moves 1 (0 0 1)", Check.latest(x));
        check.is("parties", 0, x.account(1));
        check.fails("the buffer", ARGUMENT, () -> x.readBooking());
        check.is("its fault", 2, x.faultPosition());
    }
}
