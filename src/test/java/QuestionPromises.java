import java.util.NoSuchElementException;

/** The promises 23 to 31 of the document. */
final class QuestionPromises extends Chapter {
    QuestionPromises(Check check) {
        super(check);
    }

    @Override
    void tell(Sentences all) {
        tellParties(all);
        tellNights(all);
        tellPower(all);
        tellGaps(all);
        tellAccounts(all);
    }

    private void tellParties(Sentences all) {
        all.in("Promise 23");
        all.skip("Questions.");
        all.hold("Returns the obstacle that a party would have", this::obstacle);
        all.hold("`party`", this::partyOfObstacle);
        all.hold("`pitch`", this::pitchOfObstacle);
        all.hold("Returns the obstacle, as for a new party", this::whileItIsNowhere);
        all.hold("Returns the obstacle, as for a new party", this::ofCancelledAndBegun);
        all.hold("Throws `IndexOutOfBoundsException`", this::noSuchPartyOrPitch);
        all.in("Promise 24");
        all.hold("Returns who is on a pitch in a night.", this::occupant);
        all.hold("`pitch`", this::pitchOfOccupant);
        all.hold("`night`", this::nightOfOccupant);
        all.hold("Returns the party, or -1.", this::partyOrNone);
        all.hold("Throws `IndexOutOfBoundsException`", this::noSuchPitchOrNight);
    }

    private void tellNights(Sentences all) {
        all.in("Promise 25");
        all.hold("Returns a night with a party on a pitch.", this::busyNight);
        all.hold("`pitch`", this::pitchOfBusyNight);
        all.hold("`index`", this::indexOfBusyNight);
        all.hold("Returns the night.", this::allNightsBusy);
        all.hold("Throws `IndexOutOfBoundsException`", this::noSuchPitchOfBusyNight);
        all.hold("Throws `NoSuchElementException`", this::noSuchBusyNight);
        all.in("Promise 26");
        all.hold("Returns the first night from which on a pitch", this::firstFree);
        all.hold("`pitch`", this::pitchOfFirstFree);
        all.hold("`from`", this::from);
        all.hold("`nights`", this::nightsOfFirstFree);
        all.hold("Returns the night.", this::nightsThatAreOver);
        all.hold("Throws `IndexOutOfBoundsException`", this::noSuchPitchOfFirstFree);
        all.hold("Throws `IllegalArgumentException`", this::wrongFirstFree);
        all.hold("Throws `NoSuchElementException` if there is none, up to night 59", this::noneFree);
    }

    private void tellPower(Sentences all) {
        all.in("Promise 27");
        all.hold("Returns the power that is used on a circuit in a night.", this::power);
        all.hold("`circuit`", this::circuitOfPower);
        all.hold("`night`", this::nightOfPower);
        all.hold("Returns the sum of the powers", this::sumOfPowers);
        all.hold("Throws `IndexOutOfBoundsException`", this::noSuchCircuitOrNight);
        all.in("Promise 28");
        all.hold("Returns the night in which the most power is used", this::peak);
        all.hold("Returns the night in which the most power is used", this::firstOfSeveral);
        all.hold("`circuit`", this::circuitOfPeak);
        all.hold("Returns the night.", this::peakAtTheEnds);
        all.hold("Throws `IndexOutOfBoundsException`", this::noSuchCircuitOfPeak);
        all.hold("Throws `NoSuchElementException` if none is used", this::noPower);
    }

    private void tellGaps(Sentences all) {
        all.in("Promise 29");
        all.hold("Returns a gap of a pitch.", this::gap);
        all.hold("`pitch`", this::pitchOfGap);
        all.hold("`gap`", this::orderOfGaps);
        all.hold("`isLast`", this::isLast);
        all.hold("Returns the night.", this::outermostGaps);
        all.hold("Throws `IndexOutOfBoundsException`", this::noSuchPitchOfGap);
        all.hold("Throws `NoSuchElementException`", this::noSuchGap);
    }

    private void tellAccounts(Sentences all) {
        all.in("Promise 30");
        all.skip("Accounts, undo and snapshot.");
        all.hold("Returns an account.", this::account);
        all.hold("`what`", this::eachAccount);
        all.hold("Returns the number.", this::fullAccounts);
        all.hold("Throws `IllegalArgumentException` if what is not from 0 to 7", this::wrongAccount);
        all.in("Promise 31");
        all.hold("Returns the share of the nights of all pitches", this::share);
        all.hold("Returns the number of such nights divided by 60 times", this::shareAsDoubles);
        all.hold("Throws `ArithmeticException` if there are no pitches", this::shareOfNothing);
    }

    private void obstacle() {
        Booker x = Sites.site(1, 4, 4, 0, 0, 4, 4, 0, 1, 4, 4, -1);
        x.book(1, 4, 4, 10, 10, 2);
        check.same("none, kind, circuit", "0 1 1", Check.list(0, 2, pitch -> x.obstacle(0, pitch)));
        x.setLimit(0, 9);
        check.is("on its own pitch", 3, x.obstacle(0, 0));
        x.setLimit(0, 10);
        x.addSeason(11, 11, 3);
        check.is("too short", 4, x.obstacle(0, 0));
    }

    private void partyOfObstacle() {
        Booker x = Sites.site(0, 2, 2, -1, 0, 3, 3, -1);
        for (int i = 0; i < 11; i++) {
            Sites.stay(x, 2 * i, 2);
        }
        x.book(0, 3, 3, 0, 30, 2);
        check.same("on pitch 0", "0 0 0 0 0 0 0 0 0 0 0 1", Check.list(0, 11, party -> x.obstacle(party, 0)));
    }

    private void pitchOfObstacle() {
        Booker x = Sites.site(0, 6, 3, -1, 0, 4, 4, -1, 0, 3, 6, -1, 0, 5, 3, -1, 0, 6, 2, -1, 0, 12, 12, -1);
        x.book(0, 6, 3, 0, 30, 2);
        check.same("on each pitch", "0 1 0 1 1 0", Check.list(0, 5, pitch -> x.obstacle(0, pitch)));
    }

    private void whileItIsNowhere() {
        Booker x = Sites.site(0, 2, 2, 0, 0, 3, 3, 0);
        x.setGap(0);
        x.book(0, 1, 1, 9, 10, 2);
        x.setLimit(0, 9);
        check.same("its nights and power do not count", "0 0", Check.list(0, 1, pitch -> x.obstacle(0, pitch)));
        x.setLimit(0, 20);
        x.book(0, 1, 1, 9, 12, 1);
        x.book(0, 1, 1, 9, 13, 2);
        x.addSeason(0, 59, 3);
        check.same("it fills no space for itself", "4 0 4", Check.list(0, 2, party -> x.obstacle(party, 0)));
        x.dropSeason(0);
        x.cancel(1);
        x.setGap(1);
        check.is("its own gap does not count before", 5, x.obstacle(0, 0));
        check.is("nor that of the other one", 5, x.obstacle(2, 0));
    }

    private void ofCancelledAndBegun() {
        Booker x = Sites.site(0, 2, 2, 0, 0, 3, 3, 1);
        x.book(0, 2, 2, 5, 10, 2);
        x.cancel(0);
        check.same("cancelled", "0 0", Check.list(0, 1, pitch -> x.obstacle(0, pitch)));
        x.book(0, 2, 2, 6, 11, 2);
        x.setLimit(1, 4);
        check.same("cancelled, another one there", "2 3", Check.list(0, 1, pitch -> x.obstacle(0, pitch)));
        check.same("the other one", "0 3", Check.list(0, 1, pitch -> x.obstacle(1, pitch)));
        x.advance(30);
        check.same("over", "0 3", Check.list(0, 1, pitch -> x.obstacle(1, pitch)));
        check.same("cancelled, when all is over", "2 3", Check.list(0, 1, pitch -> x.obstacle(0, pitch)));
    }

    private void noSuchPartyOrPitch() {
        Booker x = Sites.site(0, 2, 2, 0, 0, 3, 3, 1);
        check.refuses("no party", INDEX, 1, 0, x, (y, n) -> y.obstacle(n, 0));
        Sites.stay(x, 0, 2);
        Sites.stay(x, 2, 2);
        Sites.stay(x, 4, 2);
        check.refuses("party", INDEX, 0, 2, x, (y, n) -> y.obstacle(n, 1));
        check.refuses("pitch", INDEX, 0, 1, x, (y, n) -> y.obstacle(2, n));
        check.refuses("both", INDEX, 0, 2, x, (y, n) -> y.obstacle(n, n));
    }

    private void occupant() {
        Booker x = Sites.site(2, 8, 6, 0, 0, 4, 2, -1);
        x.book(2, 3, 3, 0, 58, 2);
        x.book(2, 3, 3, 0, 0, 1);
        x.book(0, 2, 2, 0, 0, 3);
        check.same("start of 0", "1 -1 -1 -1", Check.list(0, 3, night -> x.occupant(0, night)));
        check.same("start of 1", "2 2 2 -1", Check.list(0, 3, night -> x.occupant(1, night)));
        check.same("end of 0", "-1 0 0", Check.list(57, 59, night -> x.occupant(0, night)));
        x.cancel(1);
        x.move(2, 0);
        check.same("start of 0 behind move", "2 2 2 -1", Check.list(0, 3, night -> x.occupant(0, night)));
        check.same("start of 1 behind move", "-1 -1 -1 -1", Check.list(0, 3, night -> x.occupant(1, night)));
    }

    private void pitchOfOccupant() {
        Booker x = Sites.site(0, 2, 2, -1, 0, 2, 2, -1, 0, 2, 2, -1, 0, 2, 2, -1, 0, 2, 2, -1, 0, 2, 2, -1);
        for (int i = 0; i < 6; i++) {
            Sites.stay(x, 30, 1);
        }
        check.same("who", "0 1 2 3 4 5", Check.list(0, 5, pitch -> x.occupant(pitch, 30)));
    }

    private void nightOfOccupant() {
        Booker x = Sites.wide();
        Sites.stay(x, 23, 14);
        for (int night = 0; night < 60; night++) {
            check.is("night " + night, night >= 23 && night <= 36 ? 0 : -1, x.occupant(0, night));
        }
    }

    private void partyOrNone() {
        Booker x = Sites.wide();
        for (int i = 0; i < 12; i++) {
            Sites.stay(x, 5 * i, 5);
        }
        for (int night = 0; night < 60; night++) {
            check.is("night " + night, night / 5, x.occupant(0, night));
        }
        x.cancel(11);
        check.same("behind cancel", "10 -1 -1 -1 -1 -1", Check.list(54, 59, night -> x.occupant(0, night)));
        x.undo();
        x.undo();
        check.same("behind undo", "10 -1 -1 -1 -1 -1", Check.list(54, 59, night -> x.occupant(0, night)));
    }

    private void noSuchPitchOrNight() {
        check.refuses("no pitch", INDEX, 1, 0, new Booker(), (x, n) -> x.occupant(n, 0));
        check.refuses("pitch", INDEX, 0, 0, Sites.wide(), (x, n) -> x.occupant(n, 0));
        check.refuses("night", INDEX, 0, 59, Sites.wide(), (x, n) -> x.occupant(0, n));
        check.refuses("both", INDEX, 0, 59, Sites.wide(), (x, n) -> x.occupant(n, n));
    }

    /** Parties in the nights 0, 1, 10, 11 and 59. */
    private static Booker fiveNights() {
        Booker x = Sites.site(0, 2, 2, -1, 0, 3, 3, -1);
        Sites.stay(x, 59, 1);
        Sites.stay(x, 10, 2);
        Sites.stay(x, 0, 1);
        Sites.stay(x, 1, 1);
        return x;
    }

    private void busyNight() {
        Booker x = fiveNights();
        check.same("nights", "0 1 10 11 59 none", Check.list(0, 5, index -> x.busyNight(0, index)));
        x.cancel(1);
        check.same("behind cancel", "0 1 59 none", Check.list(0, 3, index -> x.busyNight(0, index)));
    }

    private void pitchOfBusyNight() {
        Booker x = fiveNights();
        x.move(1, 1);
        check.same("pitch 0", "0 1 59 none", Check.list(0, 3, index -> x.busyNight(0, index)));
        check.same("pitch 1", "10 11 none", Check.list(0, 2, index -> x.busyNight(1, index)));
    }

    private void indexOfBusyNight() {
        Booker x = fiveNights();
        check.is("0", 0, x.busyNight(0, 0));
        check.is("the last one", 59, x.busyNight(0, 4));
        x.advance(60);
        check.is("the last one when all is over", 59, x.busyNight(0, 4));
    }

    private void allNightsBusy() {
        Booker x = Sites.wide();
        for (int i = 0; i < 12; i++) {
            Sites.stay(x, 5 * i, 5);
        }
        for (int night = 0; night < 60; night++) {
            check.is("index", night, x.busyNight(0, night));
        }
        check.fails("60", NONE, x, () -> x.busyNight(0, 60));
    }

    private void noSuchPitchOfBusyNight() {
        check.refuses("no pitch", INDEX, 1, 0, new Booker(), (x, n) -> x.busyNight(n, 0));
        check.refuses("of two", INDEX, 0, 1, fiveNights(), (x, n) -> x.busyNight(n, 0));
        check.refuses("and index", INDEX, 0, 1, fiveNights(), (x, n) -> x.busyNight(n, 5));
    }

    private void noSuchBusyNight() {
        check.refuses("of five", NONE, 0, 4, fiveNights(), (x, n) -> x.busyNight(0, n));
        check.refuses("of none", NONE, 1, 0, fiveNights(), (x, n) -> x.busyNight(1, n));
        check.refuses("beyond all nights", NONE, 0, 59, fiveNights(), (x, n) -> x.busyNight(0, n));
    }

    /** Free nights: 0 and 1, 4, 6 to 49, 55 to 59. */
    private static Booker freeRows() {
        Booker x = Sites.site(0, 2, 2, -1, 0, 3, 3, -1);
        x.setGap(0);
        Sites.stay(x, 2, 2);
        Sites.stay(x, 5, 1);
        Sites.stay(x, 50, 5);
        return x;
    }

    private void firstFree() {
        Booker x = freeRows();
        check.same("from 0", "0 0 6 6", Check.list(1, 4, nights -> x.firstFree(0, 0, nights)));
        check.same("from 1", "1 6 6 6", Check.list(1, 4, nights -> x.firstFree(0, 1, nights)));
        check.same("from 3", "4 6 6 6", Check.list(1, 4, nights -> x.firstFree(0, 3, nights)));
        check.same("from 46", "46 46 46 46 55 none", Check.list(1, 6, nights -> x.firstFree(0, 46, nights)));
        x.cancel(1);
        check.same("behind cancel", "4 4 4 4", Check.list(1, 4, nights -> x.firstFree(0, 2, nights)));
    }

    private void pitchOfFirstFree() {
        Booker x = freeRows();
        check.same("both", "6 2", Check.list(0, 1, pitch -> x.firstFree(pitch, 2, 3)));
    }

    private void from() {
        check.takes("from", 0, 59, Sites::wide, (x, n) -> x.firstFree(0, n, 1), (x, n) -> x.firstFree(0, n, 1));
        check.refuses("from", ARGUMENT, 0, 59, freeRows(), (x, n) -> x.firstFree(0, n, 1));
        Booker y = freeRows();
        check.is("the night itself", 6, y.firstFree(0, 6, 14));
        check.is("in a row", 30, y.firstFree(0, 30, 14));
    }

    private void nightsOfFirstFree() {
        check.takes("nights", 1, 14, Sites::wide, (x, n) -> x.firstFree(0, 0, n), (x, n) -> n);
        check.refuses("nights", ARGUMENT, 1, 14, freeRows(), (x, n) -> x.firstFree(0, 20, n));
        Booker y = freeRows();
        y.book(0, 2, 2, 0, 20, 5);
        check.is("all of a row", 6, y.firstFree(0, 0, 14));
        y.book(0, 2, 2, 0, 6, 1);
        check.is("1 less", 25, y.firstFree(0, 0, 14));
        check.is("1 less is enough", 7, y.firstFree(0, 0, 13));
    }

    private void nightsThatAreOver() {
        Booker x = freeRows();
        x.advance(10);
        check.is("nights that are over", 0, x.firstFree(0, 0, 2));
        x.advance(50);
        check.is("when all is over", 55, x.firstFree(0, 50, 5));
    }

    private void noSuchPitchOfFirstFree() {
        check.refuses("no pitch", INDEX, 1, 0, new Booker(), (x, n) -> x.firstFree(n, 0, 1));
        check.refuses("of two", INDEX, 0, 1, freeRows(), (x, n) -> x.firstFree(n, 0, 1));
        check.refuses("and from", INDEX, 0, 1, freeRows(), (x, n) -> x.firstFree(n, 60, 1));
        check.refuses("and no room", INDEX, 0, 1, freeRows(), (x, n) -> x.firstFree(n, 59, 14));
    }

    private void wrongFirstFree() {
        Booker x = freeRows();
        check.fails("both", ARGUMENT, x, () -> x.firstFree(0, -1, 0));
        check.refuses("from, no room", ARGUMENT, 0, 59, x, (y, n) -> y.firstFree(0, n, 14));
        check.refuses("nights, no room", ARGUMENT, 1, 14, x, (y, n) -> y.firstFree(0, 59, n));
    }

    private void noneFree() {
        Booker x = freeRows();
        check.is("up to night 59", 55, x.firstFree(0, 50, 5));
        check.fails("6 nights", NONE, x, () -> x.firstFree(0, 50, 6));
        check.is("night 59", 59, x.firstFree(0, 59, 1));
        check.fails("2 nights from 59 on", NONE, x, () -> x.firstFree(0, 59, 2));
        check.is("14 nights up to 59", 46, x.firstFree(1, 46, 14));
        check.fails("14 nights up to 60", NONE, x, () -> x.firstFree(1, 47, 14));
        x.book(0, 2, 2, 0, 59, 1);
        check.fails("night 59 is taken", NONE, x, () -> x.firstFree(0, 59, 1));
        check.fails("5 nights", NONE, x, () -> x.firstFree(0, 50, 5));
        check.is("4 nights", 55, x.firstFree(0, 50, 4));
    }

    /** Pitches 0 and 1 on circuit 1, pitch 2 on circuit 2, pitch 3 on none. */
    private static Booker circuits() {
        Booker x = Sites.site(0, 2, 2, 1, 0, 2, 2, 1, 0, 3, 3, 2, 0, 4, 4, -1);
        x.book(0, 2, 2, 6, 0, 3);
        x.book(0, 2, 2, 5, 2, 2);
        x.book(0, 3, 3, 16, 2, 1);
        x.book(0, 4, 4, 0, 2, 1);
        return x;
    }

    private void power() {
        Booker x = circuits();
        check.same("circuit 1", "6 6 11 5 0", Check.list(0, 4, night -> x.power(1, night)));
        x.cancel(0);
        check.same("behind cancel", "0 0 5 5 0", Check.list(0, 4, night -> x.power(1, night)));
        x.undo();
        x.advance(60);
        check.same("when all is over", "6 6 11 5 0", Check.list(0, 4, night -> x.power(1, night)));
    }

    private void circuitOfPower() {
        Booker x = circuits();
        check.same("each", "0 11 16", Check.list(0, 2, circuit -> x.power(circuit, 2)));
    }

    private void nightOfPower() {
        Booker x = Sites.wide();
        x.book(0, 1, 1, 3, 0, 1);
        x.book(0, 1, 1, 4, 59, 1);
        for (int night = 0; night < 60; night++) {
            check.is("night " + night, night == 0 ? 3 : night == 59 ? 4 : 0, x.power(0, night));
        }
    }

    private void sumOfPowers() {
        Booker x = Sites.site(0, 2, 2, 0, 0, 2, 2, 0, 0, 2, 2, 0, 0, 2, 2, 0, 0, 2, 2, 1);
        x.setLimit(0, 40);
        x.book(0, 1, 1, 16, 5, 2);
        x.book(0, 1, 1, 16, 5, 2);
        x.book(0, 1, 1, 8, 5, 2);
        x.book(0, 1, 1, 0, 5, 2);
        x.book(0, 1, 1, 16, 5, 2);
        check.same("each", "40 16 0", Check.list(0, 2, circuit -> x.power(circuit, 6)));
        x.setLimit(0, 0);
        check.is("above the limit", 40, x.power(0, 6));
        x.cancel(2);
        check.is("without the cancelled one", 32, x.power(0, 6));
    }

    private void noSuchCircuitOrNight() {
        check.refuses("circuit", INDEX, 0, 2, circuits(), (x, n) -> x.power(n, 0));
        check.refuses("night", INDEX, 0, 59, circuits(), (x, n) -> x.power(1, n));
        check.refuses("both", INDEX, 0, 59, circuits(), (x, n) -> x.power(n, n));
        check.refuses("circuit without pitches", INDEX, 0, 2, new Booker(), (x, n) -> x.power(n, 0));
    }

    private void peak() {
        Booker x = circuits();
        check.is("two parties at once", 2, x.peak(1));
        x.cancel(1);
        check.is("one of them", 0, x.peak(1));
        x.book(0, 2, 2, 7, 40, 3);
        check.is("1 more", 40, x.peak(1));
        x.advance(60);
        check.is("when all is over", 40, x.peak(1));
    }

    private void firstOfSeveral() {
        Booker x = Sites.site(0, 2, 2, 0, 0, 2, 2, 0);
        x.book(0, 1, 1, 5, 40, 3);
        x.book(0, 1, 1, 5, 30, 3);
        check.is("the earlier one", 30, x.peak(0));
        x.book(0, 1, 1, 3, 32, 1);
        x.book(0, 1, 1, 3, 41, 2);
        check.is("the first of the greater ones", 32, x.peak(0));
        x.cancel(2);
        check.is("the first that is left of them", 41, x.peak(0));
    }

    private void circuitOfPeak() {
        Booker x = circuits();
        x.addPitch(0, 5, 5, 0);
        x.book(0, 5, 5, 1, 33, 2);
        check.same("each", "33 2 2", Check.list(0, 2, x::peak));
    }

    private void peakAtTheEnds() {
        Booker x = Sites.wide();
        x.book(0, 1, 1, 1, 59, 1);
        check.is("night 59", 59, x.peak(0));
        x.book(0, 1, 1, 1, 0, 1);
        check.is("night 0", 0, x.peak(0));
        x.book(0, 1, 1, 2, 58, 1);
        check.is("night 58", 58, x.peak(0));
    }

    private void noSuchCircuitOfPeak() {
        check.refuses("circuit", INDEX, 0, 2, circuits(), (x, n) -> x.peak(n));
        check.refuses("without pitches", INDEX, 0, 2, new Booker(), (x, n) -> x.peak(n));
    }

    private void noPower() {
        Booker x = circuits();
        check.fails("a circuit without pitches", NONE, x, () -> x.peak(0));
        x.cancel(2);
        check.fails("a circuit without parties", NONE, x, () -> x.peak(2));
        x.book(0, 3, 3, 0, 20, 2);
        check.same("places", "0 1 2 3 2", Sites.places(x));
        check.fails("a party without power", NONE, x, () -> x.peak(2));
        x.book(0, 3, 3, 1, 22, 1);
        check.is("power 1", 22, x.peak(2));
    }

    /** Parties in the nights 3, 7, 10, 17 and 19. */
    private static Booker rows() {
        Booker x = Sites.site(0, 2, 2, -1, 0, 2, 2, -1);
        x.setGap(0);
        for (int first : new int[] {19, 7, 10, 3, 17}) {
            Sites.stay(x, first, 1);
        }
        x.setGap(3);
        return x;
    }

    private void gap() {
        Booker x = rows();
        check.same("limit 3", "4 8 18 none", Check.list(0, 3, gap -> x.gap(0, gap, false)));
        x.cancel(1);
        check.same("behind cancel", "18 none", Check.list(0, 1, gap -> x.gap(0, gap, false)));
        x.undo();
        x.setGap(2);
        check.same("limit 2", "8 18 none", Check.list(0, 2, gap -> x.gap(0, gap, false)));
        x.setGap(0);
        check.same("limit 0", "none", Check.list(0, 0, gap -> x.gap(0, gap, false)));
        x.setGap(3);
        x.advance(60);
        check.same("when all is over", "4 8 18 none", Check.list(0, 3, gap -> x.gap(0, gap, false)));
    }

    private void pitchOfGap() {
        Booker x = rows();
        x.move(0, 1);
        x.move(4, 1);
        check.same("pitch 0", "4 8 none", Check.list(0, 2, gap -> x.gap(0, gap, false)));
        check.same("pitch 1", "18 none", Check.list(0, 1, gap -> x.gap(1, gap, false)));
    }

    private void orderOfGaps() {
        Booker x = Sites.plain();
        for (int i = 11; i >= 0; i--) {
            Sites.stay(x, 2 * i, 1);
        }
        x.setGap(1);
        for (int i = 0; i < 11; i++) {
            check.is("gap " + i, 2 * i + 1, x.gap(0, i, false));
        }
        check.fails("gap 11", NONE, x, () -> x.gap(0, 11, false));
    }

    private void isLast() {
        Booker x = rows();
        check.same("first nights", "4 8 18", Check.list(0, 2, gap -> x.gap(0, gap, false)));
        check.same("last nights", "6 9 18", Check.list(0, 2, gap -> x.gap(0, gap, true)));
    }

    private void outermostGaps() {
        Booker x = Sites.plain();
        for (int first : new int[] {0, 6, 53, 59}) {
            Sites.stay(x, first, 1);
        }
        x.setGap(5);
        check.same("first nights", "1 54 none", Check.list(0, 2, gap -> x.gap(0, gap, false)));
        check.same("last nights", "5 58 none", Check.list(0, 2, gap -> x.gap(0, gap, true)));
    }

    private void noSuchPitchOfGap() {
        check.refuses("no pitch", INDEX, 1, 0, new Booker(), (x, n) -> x.gap(n, 0, false));
        check.refuses("of two", INDEX, 0, 1, rows(), (x, n) -> x.gap(n, 0, true));
        check.refuses("and gap", INDEX, 0, 1, rows(), (x, n) -> x.gap(n, 3, false));
    }

    private void noSuchGap() {
        check.refuses("first night", NONE, 0, 2, rows(), (x, n) -> x.gap(0, n, false));
        check.refuses("last night", NONE, 0, 2, rows(), (x, n) -> x.gap(0, n, true));
        check.refuses("of none", NONE, 1, 0, rows(), (x, n) -> x.gap(1, n, false));
        check.refuses("beyond all nights", NONE, 0, 59, rows(), (x, n) -> x.gap(0, n, false));
    }

    /** Two pitches, three parties booked and two cancelled, one of them for a fee, a gap and a season. */
    private static Booker accounts() {
        Booker x = Sites.site(2, 8, 6, 0, 0, 4, 2, -1);
        x.addSeason(20, 30, 2);
        x.setGap(2);
        x.book(2, 3, 3, 0, 0, 2);
        x.book(2, 3, 3, 4, 5, 1);
        x.setGap(3);
        x.book(0, 2, 2, 0, 5, 3);
        x.book(0, 2, 2, 0, 11, 3);
        x.book(0, 2, 2, 0, 40, 3);
        x.cancel(3);
        x.cancel(2);
        return x;
    }

    private void account() {
        Booker x = accounts();
        check.same("all", "2 3 2 64 15 1 6 1", Check.list(0, 7, x::account));
        x.undo();
        check.same("behind undo", "2 4 1 94 0 1 9 1", Check.list(0, 7, x::account));
        x.advance(60);
        check.same("when all is over", "2 4 1 94 0 1 9 1", Check.list(0, 7, x::account));
    }

    private void eachAccount() {
        Booker x = new Booker();
        check.same("none", "0 0 0 0 0 0 0 0", Check.list(0, 7, x::account));
        x.addPitch(0, 2, 2, -1);
        check.same("a pitch", "1 0 0 0 0 0 0 0", Check.list(0, 7, x::account));
        x.addSeason(0, 0, 1);
        check.same("a season", "1 0 0 0 0 0 0 1", Check.list(0, 7, x::account));
        Sites.stay(x, 6, 2);
        check.same("a party", "1 1 0 20 0 0 2 1", Check.list(0, 7, x::account));
        Sites.stay(x, 10, 1);
        check.same("a second one", "1 2 0 30 0 0 3 1", Check.list(0, 7, x::account));
        x.setGap(2);
        check.same("a gap", "1 2 0 30 0 1 3 1", Check.list(0, 7, x::account));
        x.cancel(0);
        check.same("a cancelled party", "1 1 1 10 10 0 1 1", Check.list(0, 7, x::account));
        x.advance(5);
        x.cancel(1);
        check.same("both cancelled", "1 0 2 0 15 0 0 1", Check.list(0, 7, x::account));
    }

    private void fullAccounts() {
        Booker x = Sites.site(0, 2, 2, 0, 0, 2, 2, 0, 0, 2, 2, 1, 0, 2, 2, 1, 0, 2, 2, 2, 0, 2, 2, 2);
        x.setGap(5);
        for (int i = 0; i < 3; i++) {
            x.setLimit(i, 40);
        }
        for (int i = 0; i < 6; i++) {
            x.setRate(i, 99);
        }
        for (int i = 0; i < 4; i++) {
            x.addSeason(0, 59, 14);
        }
        for (int i = 0; i < 12; i++) {
            x.book(0, 1, 1, 16, i < 6 ? 0 : 20, 14);
        }
        check.same("places", "0 1 2 3 4 5 0 1 2 3 4 5", Sites.places(x));
        check.same("a row above the limit", "6 12 0 19320 0 0 168 4", Check.list(0, 7, x::account));
        for (int i = 0; i < 6; i++) {
            x.cancel(i);
        }
        check.same("half of them cancelled", "6 6 6 9660 9660 0 84 4", Check.list(0, 7, x::account));
    }

    private void wrongAccount() {
        check.refuses("what", ARGUMENT, 0, 7, accounts(), (x, n) -> x.account(n));
        check.refuses("what of an empty one", ARGUMENT, 0, 7, new Booker(), (x, n) -> x.account(n));
    }

    private void share() {
        Booker x = Sites.plain();
        isShare("no party", 0.0, x);
        for (int first : new int[] {0, 14, 28, 42}) {
            Sites.stay(x, first, 14);
        }
        isShare("56 of 60", 56.0 / 60.0, x);
        Sites.stay(x, 56, 4);
        isShare("all", 1.0, x);
        x.addPitch(0, 2, 2, -1);
        isShare("half of two", 0.5, x);
        x.cancel(4);
        isShare("behind cancel", 56.0 / 120.0, x);
        x.advance(60);
        isShare("when all is over", 56.0 / 120.0, x);
    }

    private void isShare(String what, double due, Booker x) {
        check.same(what, Double.toString(due), Double.toString(x.share()));
    }

    private void shareAsDoubles() {
        Booker x = new Booker();
        for (int pitches = 1; pitches <= 6; pitches++) {
            x.addPitch(0, 2, 2, -1);
            for (int nights = 1; nights <= 14; nights++) {
                Booker y = x.copy();
                Sites.stay(y, 5, nights);
                isShare(nights + " on " + pitches, (double) nights / (double) (60 * pitches), y);
            }
        }
    }

    private void shareOfNothing() {
        Booker x = new Booker();
        check.fails("no pitches", DIVISION, x, () -> x.share());
        x.addPitch(0, 2, 2, -1);
        isShare("one pitch", 0.0, x);
        x.undo();
        check.fails("no pitches behind undo", DIVISION, x, () -> x.share());
    }
}
