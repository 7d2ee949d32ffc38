/** The paragraphs "In doubt", "Exceptions" and "In doubt, too" of the document. */
final class DoubtSentences extends Chapter {
    DoubtSentences(Check check) {
        super(check);
    }

    @Override
    void tell(Sentences all) {
        all.in("In doubt");
        all.hold("The limit of a circuit counts for a party without power", this::limitWithoutPower);
        all.hold("A stay fills a space by the parties", this::filledByMove);
        all.hold("A stay fills a space by the parties", this::notFilledBehindMove);
        all.hold("Nights that are over count for gaps, too.", this::gapsThatAreOver);
        all.hold("Fees of parties that are cancelled stay.", this::feesStay);
        all.hold("Moves by move ask neither for stays nor for gaps.", this::movesAskForLess);
        all.in("Exceptions");
        all.hold("A call that throws an exception leaves the state", this::throwsInFullObject);
        all.hold("A call that throws an exception leaves the state", this::questionsThrowInFullObject);
        all.hold("A call that throws an exception leaves the state", this::throwsInEmptyObject);
        all.hold("A call that throws an exception leaves the state", this::statedOtherwise);
        all.hold("If several conditions of a method are fulfilled", this::firstOfConditions);
        all.hold("If several conditions of a method are fulfilled", this::firstOfBookingConditions);
        all.hold("If several conditions of a method are fulfilled", this::firstOfMoveConditions);
        all.in("In doubt, too");
        all.hold("Only parties that are booked count", this::arrivals);
        all.hold("Before a booking means as all is now", this::gapsBefore);
        all.hold("Before a booking means as all is now", this::gapsBeforeObstacle);
        all.hold("A moved party can be too short", this::movedPartyTooShort);
        all.hold("A moved party can be too short", this::onlyNewPitches);
        all.hold("Two parties can change places by two moves.", this::changeOfPlaces);
        all.hold("Cancelled parties have numbers", this::numbersOfCancelled);
        all.hold("A first night that is tonight can be cancelled", this::cancelledTonight);
        all.hold("Nights ahead of 0 and behind 59 fill no space.", this::outerNights);
        all.hold("A booking that is not refused by its text", this::noFaultPosition);
        all.hold("The moves of the latest booking and the reason stay", this::latestStay);
    }

    private void limitWithoutPower() {
        Booker x = Sites.site(0, 2, 2, 0, 0, 2, 2, 0);
        x.book(0, 1, 1, 5, 10, 2);
        x.setLimit(0, 4);
        check.refused("book", 3, x, () -> Sites.stay(x, 9, 2));
        check.is("in other nights", 1, Sites.stay(x, 12, 2));
        check.is("its pitch", 0, x.party(1, 6));
        x.setLimit(0, 5);
        check.is("on the limit", 2, Sites.stay(x, 9, 2));
        x.setLimit(0, 4);
        check.is("obstacle", 3, x.obstacle(2, 1));
        x.addPitch(0, 2, 2, -1);
        x.addPitch(0, 2, 2, 1);
        check.same("without that circuit", "0 0", Check.list(2, 3, pitch -> x.obstacle(2, pitch)));
        x.setLimit(1, 0);
        check.is("limit 0 and no power", 0, x.obstacle(2, 3));
        x.move(2, 2);
        check.fails("move", REFUSED, x, () -> x.move(2, 1));
    }

    /** Party 1 must come beside the new one, so that this fills a space. */
    private void filledByMove() {
        Booker x = Sites.site(0, 4, 4, -1);
        x.book(0, 3, 3, 0, 3, 3);
        x.addPitch(0, 2, 2, -1);
        x.book(0, 2, 2, 0, 7, 3);
        x.addSeason(6, 6, 2);
        check.is("number", 2, x.book(0, 3, 3, 0, 6, 1));
        check.same("plan", "1 1 0", Sites.plan(x));
        check.same("places", "0 0 0", Sites.places(x));
    }

    /** Party 0 is in the way of the new one and also on the night before it. */
    private void notFilledBehindMove() {
        Booker x = Sites.site(2, 8, 6, -1);
        x.book(0, 2, 2, 0, 1, 2);
        x.book(2, 8, 6, 0, 5, 2);
        x.addPitch(0, 2, 2, -1);
        x.addSeason(3, 3, 4);
        check.refused("the night before is free behind the move", 2, x, () -> x.book(2, 8, 6, 0, 2, 3));
        x.dropSeason(0);
        check.is("without the season", 2, x.book(2, 8, 6, 0, 2, 3));
        check.same("plan", "0 0 1", Sites.plan(x));
    }

    private void gapsThatAreOver() {
        Booker x = Sites.wide();
        Sites.stay(x, 0, 2);
        x.advance(3);
        check.refused("a gap in a night that is over", 5, x, () -> Sites.stay(x, 3, 2));
        x.setGap(0);
        Sites.stay(x, 3, 2);
        x.advance(20);
        x.setGap(1);
        check.same("the gap", "2 2", x.gap(0, 0, false) + " " + x.gap(0, 0, true));
        check.same("numbers of gaps", "1 1", x.pitch(0, 6) + " " + x.account(5));
        check.is("obstacle", 5, x.obstacle(1, 0));
        x.advance(37);
        check.is("when all nights are over", 1, x.account(5));
    }

    private void feesStay() {
        Booker x = Sites.plain();
        Sites.stay(x, 2, 2);
        Sites.stay(x, 5, 3);
        Sites.stay(x, 20, 1);
        x.cancel(0);
        x.cancel(1);
        x.cancel(2);
        check.same("fees", "20 15 0", Check.list(0, 2, party -> x.party(party, 9)));
        x.advance(30);
        Sites.stay(x, 40, 2);
        x.setRate(0, 99);
        check.same("fees later", "20 15 0 0", Check.list(0, 3, party -> x.party(party, 9)));
        check.is("the account of fees", 35, x.account(4));
        check.is("the account of prices", 20, x.account(3));
    }

    private void movesAskForLess() {
        Booker x = Sites.site(0, 2, 2, 0, 0, 2, 2, 0);
        Sites.stay(x, 10, 2);
        Sites.stay(x, 10, 3);
        Sites.stay(x, 13, 1);
        check.same("places", "0 1 1", Sites.places(x));
        x.addSeason(0, 59, 14);
        check.is("too short", 4, x.obstacle(2, 0));
        check.is("moved though too short, and with a gap", 1, x.move(2, 0));
        check.is("the gap", 1, x.account(5));
        x.dropSeason(0);
        check.is("no gap there", 0, x.move(2, 1));
        check.is("a gap", 5, x.obstacle(2, 0));
        check.is("moved though with a gap", 1, x.move(2, 0));
        check.is("the gap again", 1, x.account(5));
    }

    /** Full of pitches, seasons and changes, with a snapshot, half a text, and something of all else. */
    private static Booker parties(boolean isFull) {
        Booker x = Sites.site(2, 8, 6, -1);
        x.setGap(0);
        Sites.stay(x, 30, 1);
        Sites.stay(x, 32, 1);
        x.addPitch(0, 3, 2, -1);
        x.book(2, 8, 6, 0, 30, 4);
        Check.outcome(() -> x.book(2, 8, 6, 0, 30, 4));
        Check.outcome(() -> Sites.read(x, "t1x"));
        x.save();
        x.addPitch(1, 5, 5, 0);
        x.addPitch(0, 12, 12, 1);
        x.addPitch(2, 4, 4, 2);
        x.addPitch(1, 4, 3, 0);
        x.book(1, 5, 5, 10, 1, 3);
        x.book(2, 4, 4, 16, 50, 10);
        x.cancel(4);
        for (int i = 0; i < 4; i++) {
            x.addSeason(10 * i, 10 * i + 9, 4 - i);
            x.book(1, 4, 3, i, 31 + 2 * i, 2);
        }
        if (isFull) {
            x.book(0, 9, 9, 0, 44, 2);
        }
        x.setRate(2, 77);
        int last = Sites.stay(x, 40, 1);
        x.move(last, 0);
        x.book(2, 8, 6, 0, 40, 1);
        x.setLimit(0, 12);
        x.setLimit(1, 0);
        x.setGap(2);
        x.advance(2);
        Sites.write(x, "c3x3@4");
        return x;
    }

    private static Booker elevenParties() {
        return parties(false);
    }

    private static Booker twelveParties() {
        return parties(true);
    }

    private void throwsInFullObject() {
        Booker x = twelveParties();
        check.is("parties", 12, x.account(1) + x.account(2));
        check.same("the latest plan", "10 0 1", Sites.plan(x));
        check.fails("addPitch", ARGUMENT, x, () -> x.addPitch(0, 2, 13, 0));
        check.fails("a seventh pitch", STATE, x, () -> x.addPitch(0, 2, 2, 0));
        check.fails("setLimit, circuit", INDEX, x, () -> x.setLimit(3, 0));
        check.fails("setLimit, limit", ARGUMENT, x, () -> x.setLimit(0, 41));
        check.fails("setRate, pitch", INDEX, x, () -> x.setRate(6, 1));
        check.fails("setRate, rate", ARGUMENT, x, () -> x.setRate(0, 100));
        check.fails("setGap", ARGUMENT, x, () -> x.setGap(6));
        check.fails("addSeason", ARGUMENT, x, () -> x.addSeason(5, 4, 1));
        check.fails("a fifth season", STATE, x, () -> x.addSeason(5, 5, 1));
        check.fails("dropSeason", INDEX, x, () -> x.dropSeason(4));
        check.fails("book", ARGUMENT, x, () -> x.book(0, 1, 1, 0, 1, 1));
        check.fails("a 13th party", STATE, x, () -> x.book(0, 1, 1, 0, 56, 1));
        check.fails("move, party", INDEX, x, () -> x.move(12, 0));
        check.fails("move, pitch", INDEX, x, () -> x.move(0, 6));
        check.fails("move, cancelled", STATE, x, () -> x.move(4, 0));
        check.fails("move, begun", STATE, x, () -> x.move(3, 0));
        check.fails("move, its own pitch", STATE, x, () -> x.move(9, 3));
        check.fails("move, no fit", REFUSED, x, () -> x.move(9, 0));
        check.fails("move, taken", REFUSED, x, () -> x.move(0, 0));
        check.fails("cancel, party", INDEX, x, () -> x.cancel(12));
        check.fails("cancel, cancelled", STATE, x, () -> x.cancel(4));
        check.fails("cancel, begun", STATE, x, () -> x.cancel(3));
        check.fails("advance", ARGUMENT, x, () -> x.advance(-1));
        check.fails("advance to 61", ARGUMENT, x, () -> x.advance(59));
        Sites.write(x, "777777777777777777777777");
        check.fails("append", STATE, x, () -> x.append('7'));
    }

    private void questionsThrowInFullObject() {
        Booker x = elevenParties();
        check.same("the latest plan", "9 0 1", Sites.plan(x));
        check.fails("pitch", INDEX, x, () -> x.pitch(6, 0));
        check.fails("pitch, what", ARGUMENT, x, () -> x.pitch(0, 7));
        check.fails("season", INDEX, x, () -> x.season(4, 0));
        check.fails("season, what", ARGUMENT, x, () -> x.season(0, 3));
        check.fails("leastStay", ARGUMENT, x, () -> x.leastStay(59, 2));
        check.fails("party", INDEX, x, () -> x.party(11, 0));
        check.fails("party, what", ARGUMENT, x, () -> x.party(0, 10));
        check.fails("moveOf", NONE, x, () -> x.moveOf(1, 0));
        check.fails("moveOf, part", ARGUMENT, x, () -> x.moveOf(0, 3));
        check.fails("obstacle, party", INDEX, x, () -> x.obstacle(11, 0));
        check.fails("obstacle, pitch", INDEX, x, () -> x.obstacle(0, 6));
        check.fails("occupant, pitch", INDEX, x, () -> x.occupant(6, 0));
        check.fails("occupant, night", INDEX, x, () -> x.occupant(0, 60));
        check.fails("busyNight, pitch", INDEX, x, () -> x.busyNight(6, 0));
        check.fails("busyNight, index", NONE, x, () -> x.busyNight(0, 60));
        check.fails("firstFree, pitch", INDEX, x, () -> x.firstFree(6, 0, 1));
        check.fails("firstFree, nights", ARGUMENT, x, () -> x.firstFree(0, 0, 15));
        check.fails("firstFree, none", NONE, x, () -> x.firstFree(0, 59, 2));
        check.fails("power, circuit", INDEX, x, () -> x.power(3, 0));
        check.fails("power, night", INDEX, x, () -> x.power(0, 60));
        check.fails("peak, circuit", INDEX, x, () -> x.peak(3));
        check.fails("peak, none", NONE, x, () -> x.peak(1));
        check.fails("gap, pitch", INDEX, x, () -> x.gap(6, 0, false));
        check.fails("gap, none", NONE, x, () -> x.gap(0, 60, true));
        check.fails("account", ARGUMENT, x, () -> x.account(8));
    }

    private void throwsInEmptyObject() {
        Booker x = new Booker();
        check.fails("pitch", INDEX, x, () -> x.pitch(0, 0));
        check.fails("setRate", INDEX, x, () -> x.setRate(0, 1));
        check.fails("dropSeason", INDEX, x, () -> x.dropSeason(0));
        check.fails("season", INDEX, x, () -> x.season(0, 0));
        check.fails("refusal", NONE, x, () -> x.refusal());
        check.fails("party", INDEX, x, () -> x.party(0, 0));
        check.fails("moveOf", NONE, x, () -> x.moveOf(0, 0));
        check.fails("move", INDEX, x, () -> x.move(0, 0));
        check.fails("cancel", INDEX, x, () -> x.cancel(0));
        check.fails("obstacle", INDEX, x, () -> x.obstacle(0, 0));
        check.fails("occupant", INDEX, x, () -> x.occupant(0, 0));
        check.fails("busyNight", INDEX, x, () -> x.busyNight(0, 0));
        check.fails("firstFree", INDEX, x, () -> x.firstFree(0, 0, 1));
        check.fails("peak", NONE, x, () -> x.peak(0));
        check.fails("gap", INDEX, x, () -> x.gap(0, 0, false));
        check.fails("share", DIVISION, x, () -> x.share());
        check.fails("undo", STATE, x, () -> x.undo());
        check.fails("restore", STATE, x, () -> x.restore());
        check.fails("readBooking", ARGUMENT, x, () -> x.readBooking(), View.FAULT);
    }

    /** A refusal leaves its reason, readBooking an empty buffer and the fault position. */
    private void statedOtherwise() {
        Booker x = elevenParties();
        check.refused("book", 1, x, () -> x.book(2, 12, 12, 0, 28, 2));
        check.is("the fault position", 3, x.faultPosition());
        check.fails("readBooking", ARGUMENT, x, () -> x.readBooking(), View.TEXT, View.FAULT);
        check.is("its fault position", 6, x.faultPosition());
        Sites.write(x, "m8x6@30+1");
        check.fails("the same, refused", REFUSED, x, () -> x.readBooking(), View.TEXT, View.FAULT, View.REASON);
        check.same("fault position and reason", "-1 2", x.faultPosition() + " " + x.refusal());
        Booker y = twelveParties();
        Sites.write(y, "+2");
        check.fails("a 13th", STATE, y, () -> y.readBooking(), View.TEXT, View.FAULT);
        check.is("its fault position", -1, y.faultPosition());
    }

    private void firstOfConditions() {
        Booker x = twelveParties();
        check.fails("addPitch, number and seventh", ARGUMENT, x, () -> x.addPitch(3, 2, 2, 0));
        check.fails("pitch and what", INDEX, x, () -> x.pitch(6, 7));
        check.fails("circuit and limit", INDEX, x, () -> x.setLimit(-1, -1));
        check.fails("pitch and rate", INDEX, x, () -> x.setRate(-1, 0));
        check.fails("addSeason, number and fifth", ARGUMENT, x, () -> x.addSeason(0, 0, 15));
        check.fails("season and what", INDEX, x, () -> x.season(4, 3));
        check.fails("party and what", INDEX, x, () -> x.party(12, 10));
        check.fails("move and part", NONE, x, () -> x.moveOf(1, 3));
        check.fails("pitch and index", INDEX, x, () -> x.busyNight(6, 60));
        check.fails("pitch and from", INDEX, x, () -> x.firstFree(6, 60, 1));
        check.fails("pitch and no room", INDEX, x, () -> x.firstFree(6, 59, 2));
        check.fails("nights and no room", ARGUMENT, x, () -> x.firstFree(0, 59, 15));
        check.fails("pitch and gap", INDEX, x, () -> x.gap(6, 60, true));
    }

    private void firstOfBookingConditions() {
        Booker x = twelveParties();
        check.fails("number and 13th", ARGUMENT, x, () -> x.book(0, 1, 1, 17, 56, 1));
        check.fails("before tonight and 13th", ARGUMENT, x, () -> x.book(0, 1, 1, 0, 1, 1));
        check.fails("behind 59 and 13th", ARGUMENT, x, () -> x.book(0, 1, 1, 0, 59, 2));
        check.fails("13th and no fit", STATE, x, () -> x.book(2, 12, 12, 16, 56, 1));
        Booker y = elevenParties();
        check.fails("number and no fit", ARGUMENT, y, () -> y.book(2, 12, 12, 17, 56, 1));
        check.refused("no fit", 1, y, () -> y.book(2, 12, 12, 16, 56, 1));
        Sites.write(y, "+0");
        check.fails("number and no fit, as a text", ARGUMENT, y, () -> y.readBooking(), View.TEXT, View.FAULT);
        Sites.write(x, "+");
        check.fails("fault and 13th", ARGUMENT, x, () -> x.readBooking(), View.TEXT, View.FAULT);
        Sites.write(x, "c3x3@4+15");
        check.fails("number and 13th, as a text", ARGUMENT, x, () -> x.readBooking(), View.TEXT, View.FAULT);
        Sites.write(x, "m12x12@4+1");
        check.fails("13th and no fit, as a text", STATE, x, () -> x.readBooking(), View.TEXT);
    }

    private void firstOfMoveConditions() {
        Booker x = twelveParties();
        check.fails("cancelled and no such pitch", INDEX, x, () -> x.move(4, 6));
        check.fails("begun and no such pitch", INDEX, x, () -> x.move(3, -1));
        check.fails("no such party and pitch", INDEX, x, () -> x.move(12, 6));
        check.is("no fit", 1, x.obstacle(4, 1));
        check.fails("cancelled and no fit", STATE, x, () -> x.move(4, 1));
        check.is("no fit", 1, x.obstacle(3, 1));
        check.fails("begun and no fit", STATE, x, () -> x.move(3, 1));
        x.setLimit(0, 0);
        check.is("too much power on its own pitch", 3, x.obstacle(6, 5));
        check.fails("its own pitch and too much power", STATE, x, () -> x.move(6, 5));
    }

    private void arrivals() {
        Booker x = Sites.plain();
        Sites.stay(x, 3, 1);
        Sites.stay(x, 4, 1);
        Sites.stay(x, 5, 1);
        x.cancel(1);
        check.is("one is cancelled", 2, x.copy().advance(10));
        x.cancel(0);
        x.cancel(2);
        check.is("all are cancelled", 0, x.copy().advance(10));
        x.undo();
        check.is("one is booked again", 1, x.advance(10));
    }

    /** The gap that party 0 makes counts, though a plan moves it away. */
    private void gapsBefore() {
        Booker x = Sites.site(2, 8, 6, -1);
        x.setGap(0);
        x.book(0, 2, 2, 0, 5, 2);
        x.book(2, 8, 6, 0, 8, 2);
        x.addPitch(0, 2, 2, -1);
        x.setGap(1);
        check.is("gaps now", 1, x.account(5));
        check.is("number", 2, x.book(2, 8, 6, 0, 5, 2));
        check.same("plan", "0 0 1", Sites.plan(x));
        check.is("gaps then", 1, x.account(5));
        check.refused("one more", 5, x, () -> x.book(2, 8, 6, 0, 11, 2));
    }

    private void gapsBeforeObstacle() {
        Booker x = Sites.plain();
        Sites.stay(x, 5, 2);
        Sites.stay(x, 8, 2);
        x.setGap(1);
        check.same("the gap is not there without either", "5 5", Check.list(0, 1, party -> x.obstacle(party, 0)));
        x.setGap(0);
        Sites.stay(x, 7, 1);
        x.setGap(1);
        check.is("two gaps are none behind it", 0, x.obstacle(2, 0));
        x.setGap(5);
        x.cancel(1);
        check.is("nothing behind it", 0, x.obstacle(2, 0));
    }

    private void movedPartyTooShort() {
        Booker x = Sites.site(2, 8, 6, -1);
        x.book(0, 2, 2, 0, 5, 2);
        x.addPitch(0, 2, 2, -1);
        x.addSeason(0, 59, 4);
        check.is("it would be too short", 4, x.obstacle(0, 1));
        check.is("number", 1, x.book(2, 8, 6, 0, 5, 4));
        check.same("plan", "0 0 1", Sites.plan(x));
    }

    /** Party 1 leaves a circuit with too much power, to take a gap away. */
    private void onlyNewPitches() {
        Booker x = Sites.site(2, 8, 6, -1);
        x.book(2, 8, 6, 0, 10, 2);
        x.addPitch(0, 2, 2, 0);
        x.setGap(0);
        x.book(0, 2, 2, 0, 20, 2);
        x.book(0, 2, 2, 0, 23, 2);
        x.addPitch(0, 3, 3, 0);
        x.book(0, 3, 3, 9, 20, 5);
        x.setGap(1);
        x.setLimit(0, 5);
        check.same("places", "0 1 1 2", Sites.places(x));
        check.is("number", 4, x.book(2, 8, 6, 0, 7, 2));
        check.same("plan", "1 1 0", Sites.plan(x));
    }

    private void changeOfPlaces() {
        Booker x = Sites.site(2, 4, 4, -1);
        x.book(0, 2, 2, 0, 0, 4);
        x.addPitch(1, 4, 4, -1);
        x.book(1, 4, 4, 0, 0, 2);
        check.same("places before", "0 1", Sites.places(x));
        check.is("number", 2, x.book(2, 4, 4, 0, 2, 3));
        check.same("plan", "0 0 1, 1 1 0", Sites.plan(x));
        check.same("places", "1 0 0", Sites.places(x));
    }

    private void numbersOfCancelled() {
        Booker x = Sites.plain();
        check.is("a first one", 0, Sites.stay(x, 5, 2));
        x.cancel(0);
        check.is("behind a cancelled one", 1, Sites.stay(x, 5, 2));
        x.undo();
        check.is("behind an undone one", 1, Sites.stay(x, 9, 3));
        check.same("nights", "2 3", Check.list(0, 1, party -> x.party(party, 5)));
        for (int i = 2; i < 12; i++) {
            check.is("number", i, Sites.stay(x, 20, 1));
            x.cancel(i);
        }
        check.fails("cancelled ones are parties", STATE, x, () -> Sites.stay(x, 20, 1));
        x.undo();
        check.fails("the last one is booked again", STATE, x, () -> Sites.stay(x, 30, 1));
        x.undo();
        check.is("its number is given back", 11, Sites.stay(x, 30, 1));
    }

    private void cancelledTonight() {
        Booker x = Sites.plain();
        Sites.stay(x, 0, 3);
        Sites.stay(x, 59, 1);
        check.is("night 0", 30, x.cancel(0));
        x.advance(59);
        check.is("night 59", 10, x.cancel(1));
        x.undo();
        x.advance(1);
        check.fails("night 59 is over", STATE, x, () -> x.cancel(1));
    }

    private void outerNights() {
        Booker x = Sites.plain();
        Sites.stay(x, 1, 2);
        Sites.stay(x, 57, 2);
        x.addSeason(0, 59, 2);
        check.refused("ahead of night 1", 4, x, () -> Sites.stay(x, 0, 1));
        check.refused("behind night 58", 4, x, () -> Sites.stay(x, 59, 1));
        x.dropSeason(0);
        Sites.stay(x, 0, 1);
        Sites.stay(x, 59, 1);
        x.addSeason(0, 59, 2);
        check.same("obstacles", "4 4", Check.list(2, 3, party -> x.obstacle(party, 0)));
    }

    private void noFaultPosition() {
        Booker x = Sites.wide();
        Check.outcome(() -> Sites.read(x, "t1"));
        check.is("a fault", 2, x.faultPosition());
        Check.outcome(() -> Sites.read(x, "t1x1@0+0"));
        check.is("a wrong number", -1, x.faultPosition());
        Check.outcome(() -> Sites.read(x, "t1"));
        Sites.read(x, "t1x1@0+1");
        check.is("a good one", -1, x.faultPosition());
        Check.outcome(() -> Sites.read(x, "t1"));
        check.same("taken", REFUSED.getSimpleName(), Check.outcome(() -> Sites.read(x, "t1x1@0+1")));
        check.is("a refused one", -1, x.faultPosition());
    }

    private void latestStay() {
        Booker x = Sites.site(2, 8, 6, 0);
        x.save();
        x.book(0, 2, 2, 0, 0, 3);
        x.addPitch(0, 4, 2, -1);
        x.book(2, 8, 6, 0, 2, 2);
        check.refused("taken", 2, x, () -> x.book(2, 8, 6, 0, 2, 2));
        x.undo();
        check.same("behind undo", "0 0 1, reason 2", Sites.plan(x) + ", reason " + x.refusal());
        x.undo();
        x.undo();
        check.same("without their parties", "0 0 1, reason 2", Sites.plan(x) + ", reason " + x.refusal());
        x.restore();
        check.same("behind restore", "0 0 1, reason 2", Sites.plan(x) + ", reason " + x.refusal());
        check.refused("no fit", 1, x, () -> x.book(2, 9, 6, 0, 2, 2));
    }
}
