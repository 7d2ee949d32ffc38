import java.util.NoSuchElementException;

/** The promises 11 and 15 to 22 of the document. */
final class BookingPromises extends Chapter {
    BookingPromises(Check check) {
        super(check);
    }

    @Override
    void tell(Sentences all) {
        tellBook(all);
        tellLatest(all);
        tellParty(all);
        tellMoveAndCancel(all);
        tellNights(all);
    }

    private void tellBook(Sentences all) {
        all.in("Promise 11");
        all.skip("Bookings.");
        all.hold("Books a party.", this::book);
        all.hold("`kind`", this::kind);
        all.hold("`length`", this::length);
        all.hold("`breadth`", this::breadth);
        all.hold("`power`", this::power);
        all.hold("`first`", this::first);
        all.hold("`nights`", this::nights);
        all.hold("Returns the number of the party.", this::number);
        all.hold("Throws `IllegalArgumentException`", this::wrongNumber);
        all.hold("Throws `IllegalArgumentException`", this::beforeTonight);
        all.hold("Throws `IllegalArgumentException`", this::behind59);
        all.hold("Throws `IllegalStateException` if 12 parties were booked", this::thirteenth);
        all.hold("Throws `UnsupportedOperationException`", this::isRefused);
    }

    private void tellLatest(Sentences all) {
        all.in("Promise 15");
        all.hold("Returns the reason for which the latest booking", this::latestReason);
        all.hold("Returns the reason, 1 to 5.", this::reasons);
        all.hold("Throws `NoSuchElementException` if none was refused", this::noneWasRefused);
        all.in("Promise 17");
        all.hold("Returns the number of moves of the latest booking", this::latestMoves);
        all.hold("Returns the number, 0 to 2; 0 if there was none.", this::movesFrom0To2);
        all.in("Promise 18");
        all.hold("Returns a part of a move of the latest booking", this::latestMove);
        all.hold("`move`: the move, from 0", this::eachMove);
        all.hold("`part`: 0 for the party", this::eachPart);
        all.hold("Returns the part.", this::eachPart);
        all.hold("Throws `NoSuchElementException`", this::noSuchMove);
        all.hold("Throws `IllegalArgumentException` if part is not from 0 to 2", this::wrongPart);
    }

    private void tellParty(Sentences all) {
        all.in("Promise 16");
        all.hold("Returns a number of a party.", this::party);
        all.hold("`party`", this::eachParty);
        all.hold("`what`: 0 for its kind", this::what);
        all.hold("`what`: 0 for its kind", this::whatOfCancelled);
        all.hold("Returns the number.", this::greatestNumbers);
        all.hold("Throws `IndexOutOfBoundsException`", this::noSuchParty);
        all.hold("Throws `IllegalArgumentException` if what is not from 0 to 9", this::wrongWhat);
    }

    private void tellMoveAndCancel(Sentences all) {
        all.in("Promise 19");
        all.hold("Moves a party to another pitch.", this::move);
        all.hold("`party`", this::partyToMove);
        all.hold("`pitch`", this::pitchToMoveTo);
        all.hold("Returns the pitch on which it was.", this::pitchBefore);
        all.hold("Throws `IndexOutOfBoundsException`", this::noSuchMover);
        all.hold("Throws `IllegalStateException`", this::cannotBeMoved);
        all.hold("Throws `UnsupportedOperationException`", this::obstacleOfMove);
        all.hold("Throws `UnsupportedOperationException`", this::withoutItself);
        all.in("Promise 20");
        all.hold("Cancels a party.", this::cancel);
        all.hold("`party`", this::partyToCancel);
        all.hold("Returns the fee.", this::fee);
        all.hold("Throws `IndexOutOfBoundsException`", this::noneToCancel);
        all.hold("Throws `IllegalStateException`", this::cannotBeCancelled);
    }

    private void tellNights(Sentences all) {
        all.in("Promise 21");
        all.hold("Makes some nights go by.", this::advance);
        all.hold("`nights`", this::nightsToGo);
        all.hold("Returns the number of parties whose first night", this::arrivals);
        all.hold("Throws `IllegalArgumentException`", this::tooManyNights);
        all.in("Promise 22");
        all.hold("Returns which night it is.", this::tonight);
        all.hold("Returns tonight, 0 to 60.", this::everyTonight);
    }

    private void book() {
        Booker x = Sites.site(1, 8, 6, 2);
        x.setRate(0, 20);
        check.is("number", 0, x.book(1, 6, 8, 5, 40, 7));
        check.same("party", "1 6 8 5 40 7 0 175 1 0", Sites.party(x, 0));
        check.same("accounts", "1 1 0 175 0 0 7 0", Check.list(0, 7, x::account));
        check.same("occupant", "-1 0 0 0 0 0 0 0 -1", Check.list(39, 47, night -> x.occupant(0, night)));
    }

    private void kind() {
        check.takes("kind", 0, 2, Sites::wide, (x, n) -> x.book(n, 3, 4, 5, 6, 7), (x, n) -> x.party(0, 0));
        check.refuses("kind", ARGUMENT, 0, 2, Sites.wide(), (x, n) -> x.book(n, 3, 4, 5, 6, 7));
    }

    private void length() {
        check.takes("length", 1, 12, Sites::wide, (x, n) -> x.book(1, n, 4, 5, 6, 7), (x, n) -> x.party(0, 1));
        check.refuses("length", ARGUMENT, 1, 12, Sites.wide(), (x, n) -> x.book(1, n, 4, 5, 6, 7));
    }

    private void breadth() {
        check.takes("breadth", 1, 12, Sites::wide, (x, n) -> x.book(1, 3, n, 5, 6, 7), (x, n) -> x.party(0, 2));
        check.refuses("breadth", ARGUMENT, 1, 12, Sites.wide(), (x, n) -> x.book(1, 3, n, 5, 6, 7));
    }

    private void power() {
        check.takes("power", 0, 16, Sites::wide, (x, n) -> x.book(1, 3, 4, n, 6, 7), (x, n) -> x.party(0, 3));
        check.refuses("power", ARGUMENT, 0, 16, Sites.wide(), (x, n) -> x.book(1, 3, 4, n, 6, 7));
    }

    private void first() {
        check.takes("first", 0, 59, Sites::wide, (x, n) -> x.book(1, 3, 4, 5, n, 1), (x, n) -> x.party(0, 4));
        check.refuses("first", ARGUMENT, 0, 59, Sites.wide(), (x, n) -> x.book(1, 3, 4, 5, n, 1));
    }

    private void nights() {
        check.takes("nights", 1, 14, Sites::wide, (x, n) -> x.book(1, 3, 4, 5, 6, n), (x, n) -> x.party(0, 5));
        check.refuses("nights", ARGUMENT, 1, 14, Sites.wide(), (x, n) -> x.book(1, 3, 4, 5, 6, n));
    }

    private void number() {
        Booker x = Sites.wide();
        for (int i = 0; i < 12; i++) {
            check.is("number", i, Sites.stay(x, 60 - 5 * (i + 1), 5));
            check.is("its first night", 60 - 5 * (i + 1), x.party(i, 4));
        }
    }

    private void wrongNumber() {
        Booker x = Sites.wide();
        check.fails("all numbers", ARGUMENT, x, () -> x.book(-1, 0, 0, -1, -1, 0));
        check.fails("only the first", ARGUMENT, x, () -> x.book(3, 1, 1, 0, 0, 1));
        check.fails("only the second", ARGUMENT, x, () -> x.book(0, 13, 1, 0, 0, 1));
        check.fails("only the third", ARGUMENT, x, () -> x.book(0, 1, 13, 0, 0, 1));
        check.fails("only the fourth", ARGUMENT, x, () -> x.book(0, 1, 1, 17, 0, 1));
        check.fails("only the fifth", ARGUMENT, x, () -> x.book(0, 1, 1, 0, 60, 1));
        check.fails("only the sixth", ARGUMENT, x, () -> x.book(0, 1, 1, 0, 0, 15));
        check.is("none", 0, x.book(0, 1, 1, 0, 0, 1));
    }

    private void beforeTonight() {
        for (int tonight : new int[] {1, 30, 59}) {
            Booker x = Sites.wide();
            x.advance(tonight);
            check.fails("the night before " + tonight, ARGUMENT, x, () -> Sites.stay(x, tonight - 1, 1));
            check.fails("night 0", ARGUMENT, x, () -> Sites.stay(x, 0, 1));
            check.is("tonight", 0, Sites.stay(x, tonight, 1));
        }
        Booker x = Sites.wide();
        x.advance(60);
        check.fails("when all nights are over", ARGUMENT, x, () -> Sites.stay(x, 59, 1));
    }

    private void behind59() {
        for (int nights = 1; nights <= 14; nights++) {
            int stay = nights;
            Booker x = Sites.wide();
            check.fails(nights + " up to 60", ARGUMENT, x, () -> Sites.stay(x, 61 - stay, stay));
            check.is(nights + " up to 59", 0, Sites.stay(x, 60 - stay, stay));
        }
    }

    private void thirteenth() {
        Booker x = Sites.site(0, 2, 2, -1);
        for (int i = 0; i < 11; i++) {
            Sites.stay(x, 3 * i, 3);
        }
        check.is("a 12th", 11, Sites.stay(x, 33, 3));
        check.fails("a 13th", STATE, x, () -> Sites.stay(x, 36, 3));
        check.fails("a 13th that has no room", STATE, x, () -> Sites.stay(x, 0, 3));
        check.fails("a wrong 13th", ARGUMENT, x, () -> Sites.stay(x, 36, 0));
        x.cancel(11);
        check.fails("one is cancelled", STATE, x, () -> Sites.stay(x, 33, 3));
        x.undo();
        x.undo();
        check.is("one is undone", 11, Sites.stay(x, 36, 3));
    }

    private void isRefused() {
        Booker x = Sites.wide();
        x.book(0, 1, 1, 10, 10, 2);
        check.refused("taken", 2, x, () -> x.book(0, 1, 1, 0, 11, 2));
        check.is("kept", 2, x.refusal());
        check.refused("a gap", 5, x, () -> x.book(0, 1, 1, 0, 13, 2));
        check.is("the new one is kept", 5, x.refusal());
        x.book(0, 1, 1, 0, 12, 2);
        check.is("behind a booking", 5, x.refusal());
    }

    private void latestReason() {
        Booker x = Sites.plain();
        Sites.stay(x, 0, 2);
        check.refused("taken", 2, x, () -> Sites.stay(x, 1, 2));
        check.refused("too great", 1, x, () -> x.book(0, 1, 1, 1, 5, 2));
        Sites.stay(x, 5, 2);
        check.is("behind a booking", 1, x.refusal());
        check.fails("a wrong number", ARGUMENT, x, () -> Sites.stay(x, 1, 0));
        check.is("behind a wrong number", 1, x.refusal());
        Check.outcome(() -> Sites.read(x, "t1"));
        check.is("behind a fault", 1, x.refusal());
        Check.outcome(() -> Sites.read(x, "t1x1@6+1"));
        check.is("of a text", 2, x.refusal());
        check.fails("a refused move", STATE, x, () -> x.move(0, 0));
        check.is("behind move", 2, x.refusal());
        for (int i = 2; i < 12; i++) {
            Sites.stay(x, 2 * i + 10, 2);
        }
        check.fails("a 13th", STATE, x, () -> x.book(0, 1, 1, 1, 5, 2));
        check.is("behind a 13th", 2, x.refusal());
    }

    private void reasons() {
        Booker x = Sites.site(0, 4, 4, 0);
        x.book(0, 1, 1, 10, 5, 3);
        check.refused("no fit", 1, x, () -> x.book(0, 5, 1, 0, 20, 1));
        check.refused("taken", 2, x, () -> x.book(0, 1, 1, 0, 7, 1));
        x.setLimit(0, 9);
        check.refused("power", 3, x, () -> x.book(0, 1, 1, 10, 20, 1));
        check.refused("gap", 5, x, () -> x.book(0, 1, 1, 0, 9, 1));
        x.addSeason(9, 9, 2);
        check.refused("stay", 4, x, () -> x.book(0, 1, 1, 0, 9, 1));
    }

    private void noneWasRefused() {
        Booker x = Sites.wide();
        check.fails("a new object", NONE, x, () -> x.refusal());
        Sites.stay(x, 0, 1);
        check.fails("behind a booking", NONE, x, () -> x.refusal());
        check.fails("a wrong number", ARGUMENT, x, () -> x.book(3, 1, 1, 0, 0, 1));
        check.fails("behind a wrong number", NONE, x, () -> x.refusal());
        check.fails("a fault", ARGUMENT, x, () -> x.readBooking(), View.FAULT);
        check.fails("behind a fault", NONE, x, () -> x.refusal());
        x.book(0, 1, 1, 5, 10, 1);
        x.addPitch(0, 2, 2, -1);
        check.fails("a move without fit", REFUSED, x, () -> x.move(1, 1));
        check.fails("behind a move that was refused", NONE, x, () -> x.refusal());
    }

    /** Party 0 was on pitch 0 and went to pitch 1 for party 1. */
    private static Booker oneMove() {
        Booker x = Sites.inTheWay();
        x.book(2, 8, 6, 0, 2, 2);
        return x;
    }

    /** Parties 0 and 2 went from pitch 0 to the pitches 2 and 1. */
    private static Booker twoMoves() {
        Booker x = Sites.site(2, 8, 6, -1);
        x.setGap(0);
        x.book(1, 2, 2, 0, 0, 2);
        x.book(0, 8, 1, 0, 6, 2);
        x.book(0, 2, 2, 0, 4, 2);
        x.addPitch(0, 2, 2, -1);
        x.addPitch(1, 2, 2, -1);
        x.book(2, 8, 6, 0, 1, 4);
        return x;
    }

    private void latestMoves() {
        Booker x = oneMove();
        check.is("one", 1, x.moves());
        check.refused("taken", 2, x, () -> x.book(2, 8, 6, 0, 2, 2));
        check.is("behind one that was refused", 1, x.moves());
        check.fails("a wrong number", ARGUMENT, x, () -> x.book(2, 8, 6, 0, 2, 0));
        check.is("behind a wrong number", 1, x.moves());
        check.fails("a fault", ARGUMENT, x, () -> x.readBooking(), View.FAULT);
        check.is("behind a fault", 1, x.moves());
        x.undo();
        check.is("behind undo", 1, x.moves());
        Sites.stay(x, 20, 1);
        check.is("behind a booking without", 0, x.moves());
        x.undo();
        check.is("behind its undo", 0, x.moves());
    }

    private void movesFrom0To2() {
        Booker x = Sites.site(0, 2, 2, -1);
        check.is("there was none", 0, x.moves());
        check.refused("no fit", 1, x, () -> x.book(1, 1, 1, 0, 0, 1));
        check.is("one that was refused", 0, x.moves());
        Sites.stay(x, 0, 1);
        check.is("without moves", 0, x.moves());
        check.is("with one", 1, oneMove().moves());
        check.is("with two", 2, twoMoves().moves());
        Booker y = oneMove();
        y.undo();
        Sites.stay(y, 20, 1);
        check.is("a text with one", 2, Sites.read(y, "m8x6@2+2"));
        check.is("its moves", 1, y.moves());
        check.is("a text without", 3, Sites.read(y, "m8x6@30+2"));
        check.is("its moves", 0, y.moves());
    }

    private void latestMove() {
        Booker x = oneMove();
        check.refused("taken", 2, x, () -> x.book(2, 8, 6, 0, 2, 2));
        check.same("behind one that was refused", "0 0 1", Sites.plan(x));
        x.undo();
        x.move(0, 1);
        x.move(0, 0);
        x.cancel(0);
        check.same("behind other changes", "0 0 1", Sites.plan(x));
        Sites.stay(x, 20, 1);
        check.fails("behind a booking without", NONE, x, () -> x.moveOf(0, 0));
        Booker y = twoMoves();
        Sites.stay(y, 20, 1);
        y.move(4, 0);
        y.book(2, 8, 6, 0, 20, 1);
        check.same("a new move", "4 0 1", Sites.plan(y));
        check.fails("no second one", NONE, y, () -> y.moveOf(1, 0));
    }

    private void eachMove() {
        Booker x = twoMoves();
        check.same("parties", "0 2 none", Check.list(0, 2, move -> x.moveOf(move, 0)));
    }

    private void eachPart() {
        Booker x = twoMoves();
        check.same("the first move", "0 0 2", Check.list(0, 2, part -> x.moveOf(0, part)));
        check.same("the second move", "2 0 1", Check.list(0, 2, part -> x.moveOf(1, part)));
        check.same("places", "2 0 1 0", Sites.places(x));
    }

    private void noSuchMove() {
        check.refuses("of none", NONE, 1, 0, Sites.wide(), (x, n) -> x.moveOf(n, 0));
        check.refuses("of one", NONE, 0, 0, oneMove(), (x, n) -> x.moveOf(n, 2));
        check.refuses("of two", NONE, 0, 1, twoMoves(), (x, n) -> x.moveOf(n, 1));
        check.refuses("and part", NONE, 0, 1, twoMoves(), (x, n) -> x.moveOf(n, 3));
    }

    private void wrongPart() {
        check.refuses("of the first", ARGUMENT, 0, 2, twoMoves(), (x, n) -> x.moveOf(0, n));
        check.refuses("of the second", ARGUMENT, 0, 2, twoMoves(), (x, n) -> x.moveOf(1, n));
    }

    private void party() {
        Booker x = Sites.site(2, 8, 6, 0, 0, 4, 2, -1);
        x.setRate(0, 20);
        x.book(2, 7, 5, 16, 50, 10);
        x.book(0, 2, 4, 0, 0, 1);
        check.same("party 0", "2 7 5 16 50 10 0 360 1 0", Sites.party(x, 0));
        check.same("party 1", "0 2 4 0 0 1 1 10 1 0", Sites.party(x, 1));
    }

    private void eachParty() {
        Booker x = Sites.wide();
        for (int i = 0; i < 12; i++) {
            x.book(0, 12 - i, 1, 0, 5 * i, 5);
        }
        check.same("lengths", "12 11 10 9 8 7 6 5 4 3 2 1", Check.list(0, 11, party -> x.party(party, 1)));
    }

    private void what() {
        Booker x = Sites.site(2, 12, 12, -1, 2, 11, 10, 1);
        check.is("number", 0, x.book(1, 9, 8, 7, 46, 5));
        check.same("0 to 9", "1 9 8 7 46 5 1 85 1 0", Check.list(0, 9, what -> x.party(0, what)));
        check.is("with a fee", 0, x.cancel(0));
        x.undo();
        x.advance(46);
        check.same("its first night is tonight", "1 9 8 7 46 5 1 85 1 0", Sites.party(x, 0));
        x.advance(14);
        check.same("it is over", "1 9 8 7 46 5 1 85 1 0", Sites.party(x, 0));
    }

    private void whatOfCancelled() {
        Booker x = Sites.site(0, 2, 2, -1, 0, 3, 3, -1);
        Sites.stay(x, 5, 3);
        x.move(0, 1);
        x.cancel(0);
        check.same("cancelled", "0 1 1 0 5 3 1 30 0 15", Sites.party(x, 0));
        x.setRate(0, 50);
        x.setRate(1, 50);
        x.advance(40);
        check.same("later", "0 1 1 0 5 3 1 30 0 15", Sites.party(x, 0));
        Sites.stay(x, 50, 1);
        x.cancel(1);
        check.same("without a fee", "0 1 1 0 50 1 0 50 0 0", Sites.party(x, 1));
    }

    private void greatestNumbers() {
        Booker x = Sites.wide();
        x.setRate(0, 99);
        x.book(2, 12, 12, 16, 46, 14);
        check.same("the greatest", "2 12 12 16 46 14 0 1610 1 0", Sites.party(x, 0));
        x.setRate(0, 1);
        x.book(0, 1, 1, 0, 0, 1);
        check.same("the least", "0 1 1 0 0 1 0 1 1 0", Sites.party(x, 1));
        x.cancel(1);
        check.same("the least fee", "0 1 1 0 0 1 0 1 0 1", Sites.party(x, 1));
        x.advance(46);
        check.is("the greatest fee", 1610, x.cancel(0));
        check.is("it is kept", 1610, x.party(0, 9));
    }

    private void noSuchParty() {
        check.refuses("no party", INDEX, 1, 0, Sites.wide(), (x, n) -> x.party(n, 0));
        check.refuses("of two", INDEX, 0, 1, oneMove(), (x, n) -> x.party(n, 0));
        check.refuses("and what", INDEX, 0, 1, oneMove(), (x, n) -> x.party(n, 10));
        Booker y = oneMove();
        y.undo();
        check.refuses("behind undo", INDEX, 0, 0, y, (x, n) -> x.party(n, 0));
    }

    private void wrongWhat() {
        check.refuses("what", ARGUMENT, 0, 9, oneMove(), (x, n) -> x.party(1, n));
    }

    private void move() {
        Booker x = Sites.site(0, 2, 2, 0, 0, 3, 3, 1);
        x.book(0, 2, 2, 5, 10, 2);
        x.setRate(1, 50);
        x.move(0, 1);
        check.same("party", "0 2 2 5 10 2 1 30 1 0", Sites.party(x, 0));
        check.same("pitch 0", "-1 -1", Check.list(10, 11, night -> x.occupant(0, night)));
        check.same("pitch 1", "0 0", Check.list(10, 11, night -> x.occupant(1, night)));
        check.same("power", "0 5 0", Check.list(0, 2, circuit -> x.power(circuit, 10)));
        check.same("nights", "0 2", Check.list(0, 1, pitch -> x.pitch(pitch, 5)));
        check.is("the pitch is free", 1, x.book(0, 2, 2, 0, 10, 2));
        check.same("places", "1 0", Sites.places(x));
    }

    private void partyToMove() {
        Booker x = Sites.site(0, 2, 2, -1, 0, 3, 3, -1);
        for (int i = 0; i < 12; i++) {
            Sites.stay(x, 4 * i, 4);
        }
        for (int i = 11; i >= 0; i -= 4) {
            x.move(i, 1);
        }
        check.same("places", "0 0 0 1 0 0 0 1 0 0 0 1", Sites.places(x));
    }

    private void pitchToMoveTo() {
        Booker x = Sites.site(0, 2, 2, -1, 0, 2, 2, -1, 0, 2, 2, -1, 0, 2, 2, -1, 0, 2, 2, -1, 0, 2, 2, -1);
        Sites.stay(x, 7, 3);
        for (int pitch : new int[] {5, 3, 1, 4, 2, 0}) {
            x.move(0, pitch);
            check.is("pitch", pitch, x.party(0, 6));
            check.is("who", 0, x.occupant(pitch, 7));
        }
    }

    private void pitchBefore() {
        Booker x = Sites.site(0, 2, 2, -1, 0, 2, 2, -1, 0, 2, 2, -1);
        Sites.stay(x, 7, 3);
        check.is("0", 0, x.move(0, 2));
        check.is("2", 2, x.move(0, 1));
        check.is("1", 1, x.move(0, 0));
    }

    private void noSuchMover() {
        Booker x = oneMove();
        check.refuses("party", INDEX, 0, 1, x, (y, n) -> y.move(n, 0));
        check.refuses("pitch", INDEX, 0, 1, x, (y, n) -> y.move(0, n));
        check.refuses("both", INDEX, 0, 1, x, (y, n) -> y.move(n, n));
        check.refuses("no party", INDEX, 1, 0, Sites.wide(), (y, n) -> y.move(n, 0));
        x.cancel(0);
        check.refuses("pitch of a cancelled party", INDEX, 0, 1, x, (y, n) -> y.move(0, n));
    }

    private void cannotBeMoved() {
        Booker x = Sites.site(0, 2, 2, -1, 0, 2, 2, -1);
        Sites.stay(x, 3, 2);
        Sites.stay(x, 5, 1);
        Sites.stay(x, 6, 2);
        check.fails("its own pitch", STATE, x, () -> x.move(2, 0));
        x.cancel(2);
        check.fails("cancelled", STATE, x, () -> x.move(2, 1));
        check.fails("cancelled, its own pitch", STATE, x, () -> x.move(2, 0));
        x.undo();
        x.advance(4);
        check.fails("before tonight, not yet over", STATE, x, () -> x.move(0, 1));
        check.is("the next night", 0, x.move(1, 1));
        x.advance(1);
        check.is("tonight", 1, x.move(1, 0));
        check.fails("before tonight, over", STATE, x, () -> x.move(0, 1));
    }

    private void obstacleOfMove() {
        Booker x = Sites.site(1, 4, 4, 0);
        x.book(1, 4, 4, 10, 10, 2);
        x.addPitch(0, 4, 4, 0);
        x.addPitch(1, 4, 3, 0);
        x.addPitch(1, 4, 4, -1);
        x.addPitch(2, 4, 4, 1);
        x.addPitch(1, 5, 5, 2);
        check.fails("its kind", REFUSED, x, () -> x.move(0, 1));
        check.fails("its shape", REFUSED, x, () -> x.move(0, 2));
        check.fails("its power", REFUSED, x, () -> x.move(0, 3));
        x.book(2, 2, 2, 0, 11, 2);
        check.fails("another party", REFUSED, x, () -> x.move(0, 4));
        x.setLimit(2, 9);
        check.fails("more than the limit", REFUSED, x, () -> x.move(0, 5));
        x.setLimit(2, 10);
        x.addSeason(10, 10, 3);
        check.is("too short", 4, x.obstacle(0, 5));
        check.is("not asked for", 0, x.move(0, 5));
        x.cancel(1);
        x.book(2, 2, 2, 0, 13, 2);
        x.dropSeason(0);
        check.is("a gap", 5, x.obstacle(0, 4));
        check.is("not asked for", 5, x.move(0, 4));
    }

    private void withoutItself() {
        Booker x = Sites.site(0, 2, 2, 0, 0, 2, 2, 0);
        x.book(0, 1, 1, 16, 0, 2);
        check.is("on the limit", 0, x.move(0, 1));
        x.setLimit(0, 15);
        check.fails("above the limit", REFUSED, x, () -> x.move(0, 0));
    }

    private void cancel() {
        Booker x = Sites.wide();
        x.book(0, 1, 1, 4, 10, 2);
        x.cancel(0);
        check.same("accounts", "1 0 1 0 0 0 0 0", Check.list(0, 7, x::account));
        check.same("nights", "-1 -1", Check.list(10, 11, night -> x.occupant(0, night)));
        check.is("power", 0, x.power(0, 10));
        check.is("room", 1, x.book(0, 1, 1, 16, 9, 4));
    }

    private void partyToCancel() {
        Booker x = Sites.plain();
        for (int i = 0; i < 12; i++) {
            Sites.stay(x, 4 * i + 8, 4);
        }
        for (int i = 11; i >= 0; i -= 4) {
            x.cancel(i);
        }
        check.same("booked", "1 1 1 0 1 1 1 0 1 1 1 0", Check.list(0, 11, party -> x.party(party, 8)));
    }

    private void fee() {
        int[] due = {10, 10, 10, 5, 5, 5, 5, 0, 0, 0};
        for (int first = 0; first < due.length; first++) {
            Booker x = Sites.plain();
            Sites.stay(x, first, 1);
            check.is("from night " + first, due[first], x.cancel(0));
            check.is("the fee of the party", due[first], x.party(0, 9));
        }
    }

    private void noneToCancel() {
        check.refuses("no party", INDEX, 1, 0, Sites.wide(), (x, n) -> x.cancel(n));
        check.refuses("of two", INDEX, 0, 1, oneMove(), (x, n) -> x.cancel(n));
        Booker y = oneMove();
        y.cancel(0);
        check.refuses("of two, one cancelled", INDEX, 0, 1, y, (x, n) -> x.cancel(n));
    }

    private void cannotBeCancelled() {
        Booker x = Sites.plain();
        Sites.stay(x, 3, 3);
        Sites.stay(x, 6, 1);
        x.advance(3);
        check.is("tonight", 30, x.cancel(0));
        check.fails("cancelled", STATE, x, () -> x.cancel(0));
        x.undo();
        x.advance(1);
        check.fails("before tonight, not yet over", STATE, x, () -> x.cancel(0));
        x.cancel(1);
        x.advance(56);
        check.fails("cancelled and before tonight", STATE, x, () -> x.cancel(1));
        check.fails("when all nights are over", STATE, x, () -> x.cancel(0));
    }

    private void advance() {
        Booker x = Sites.wide();
        Sites.stay(x, 5, 3);
        x.advance(5);
        check.is("tonight", 5, x.tonight());
        check.is("can be cancelled", 30, x.cancel(0));
        x.undo();
        x.advance(1);
        check.is("tonight", 6, x.tonight());
        check.fails("cannot be cancelled", STATE, x, () -> x.cancel(0));
        check.fails("cannot be booked", ARGUMENT, x, () -> Sites.stay(x, 5, 1));
    }

    private void nightsToGo() {
        check.takes("nights", 0, 60, Booker::new, (x, n) -> x.advance(n), (x, n) -> x.tonight());
        check.refuses("nights", ARGUMENT, 0, 60, new Booker(), (x, n) -> x.advance(n));
    }

    private void arrivals() {
        Booker x = Sites.plain();
        int[] firsts = {0, 1, 4, 5, 6, 58, 59};
        for (int first : firsts) {
            Sites.stay(x, first, 1);
        }
        check.is("no night", 0, x.advance(0));
        check.is("night 0", 1, x.advance(1));
        check.is("nights 1 to 4", 2, x.advance(4));
        check.is("night 5", 1, x.advance(1));
        x.cancel(4);
        check.is("nights 6 to 57, and a cancelled one", 0, x.advance(52));
        check.is("nights 58 and 59", 2, x.advance(2));
        check.is("no night at the end", 0, x.advance(0));
        Booker y = Sites.site(0, 2, 2, -1, 0, 2, 2, -1, 0, 2, 2, -1);
        for (int i = 0; i < 3; i++) {
            Sites.stay(y, 7, 10);
        }
        check.is("several in one night", 3, y.advance(8));
        check.is("they have come", 0, y.advance(5));
    }

    private void tooManyNights() {
        Booker x = new Booker();
        check.fails("61", ARGUMENT, x, () -> x.advance(61));
        check.is("59", 0, x.advance(59));
        check.refuses("behind 59", ARGUMENT, 0, 1, x, (y, n) -> y.advance(n));
        check.is("1", 0, x.advance(1));
        check.refuses("behind 60", ARGUMENT, 0, 0, x, (y, n) -> y.advance(n));
        check.is("0", 0, x.advance(0));
    }

    private void tonight() {
        Booker x = new Booker();
        check.is("at first", 0, x.tonight());
        x.advance(7);
        x.advance(5);
        check.is("behind two calls", 12, x.tonight());
        x.undo();
        check.is("behind undo", 7, x.tonight());
        x.save();
        x.advance(9);
        x.restore();
        check.is("behind restore", 7, x.tonight());
    }

    private void everyTonight() {
        Booker x = new Booker();
        for (int i = 0; i < 60; i++) {
            check.is("tonight", i, x.tonight());
            x.advance(1);
        }
        check.is("tonight", 60, x.tonight());
    }
}
