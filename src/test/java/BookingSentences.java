/** The paragraphs of the document from "Booking" to "Cancelling". */
final class BookingSentences extends Chapter {
    private static final int TAKEN = 2;
    private static final int POWER = 3;
    private static final int GAP = 5;

    BookingSentences(Check check) {
        super(check);
    }

    @Override
    void tell(Sentences all) {
        all.in("Booking");
        all.hold("To book a party, the best plan is carried out.", this::carriedOut);
        all.hold("If there is no right plan", this::withoutPitches);
        all.hold("If there is no right plan", this::greatestObstacle);
        all.hold("If there is no right plan", this::asAllIsNow);
        all.hold("The party gets its number only if it is booked.", this::numberIfBooked);
        all.in("Prices");
        all.hold("The price of a party is fixed", this::price);
        all.hold("The price of a party is fixed", this::priceIsFixed);
        all.hold("A move does not change it.", this::priceBehindMove);
        all.in("Cancelling");
        all.hold("A booked party whose first night is not before tonight", this::whoCanBeCancelled);
        all.hold("The fee is 0 if at least 7 nights", this::fees);
        all.hold("The fee is 0 if at least 7 nights", this::halfPrice);
    }

    private void carriedOut() {
        Booker x = Sites.site(2, 8, 6, 1);
        x.setGap(0);
        x.book(0, 2, 2, 3, 10, 2);
        x.book(1, 2, 2, 0, 13, 2);
        x.addPitch(0, 3, 2, 2);
        x.addPitch(1, 2, 2, -1);
        check.is("number", 2, x.book(2, 8, 6, 4, 11, 3));
        check.same("the new party", "2 8 6 4 11 3 0 42 1 0", Sites.party(x, 2));
        check.same("party 0", "0 2 2 3 10 2 1 26 1 0", Sites.party(x, 0));
        check.same("party 1", "1 2 2 0 13 2 2 20 1 0", Sites.party(x, 1));
        check.same("pitch 0", "-1 2 2 2 -1", Check.list(10, 14, night -> x.occupant(0, night)));
        check.same("pitch 1", "0 0 -1 -1 -1", Check.list(10, 14, night -> x.occupant(1, night)));
        check.same("pitch 2", "-1 -1 -1 1 1", Check.list(10, 14, night -> x.occupant(2, night)));
        check.same("circuit 1", "0 4 4 4 0", Check.list(10, 14, night -> x.power(1, night)));
        check.same("circuit 2", "3 3 0 0 0", Check.list(10, 14, night -> x.power(2, night)));
        check.is("changes", 6, x.undo());
        check.same("places behind undo", "0 0", Sites.places(x));
    }

    private void withoutPitches() {
        Booker x = new Booker();
        check.refused("no pitch", 1, x, () -> x.book(0, 1, 1, 0, 0, 1));
        x.addPitch(0, 2, 2, -1);
        check.is("one pitch", 0, x.book(0, 1, 1, 0, 0, 1));
        check.refused("taken", TAKEN, x, () -> x.book(0, 1, 1, 0, 0, 1));
        x.undo();
        x.undo();
        check.refused("no pitch again", 1, x, () -> x.book(0, 1, 1, 0, 0, 1));
    }

    /** Pitches that give these obstacles to a party of 2 to 2 and power 5 in nights 20 and 21; no party can be moved. */
    private static Booker obstacles(int... kinds) {
        Booker x = new Booker();
        x.setGap(0);
        x.setLimit(1, 4);
        for (int i = 0; i < kinds.length; i++) {
            x.addPitch(0, 2 + i, 2 + i, kinds[i] == 1 ? -1 : kinds[i] == POWER ? 1 : 0);
            if (kinds[i] == TAKEN || kinds[i] == GAP) {
                x.book(0, 2 + i, 2 + i, 0, kinds[i] == TAKEN ? 19 : 17, 2);
            }
        }
        x.setGap(1);
        x.advance(20);
        return x;
    }

    private void reason(int due, int... kinds) {
        Booker x = obstacles(kinds);
        String what = "obstacles " + java.util.Arrays.toString(kinds);
        check.refused(what, due, x, () -> x.book(0, 2, 2, 5, 20, 2));
    }

    private void greatestObstacle() {
        reason(1, 1);
        reason(1, 1, 1, 1, 1, 1, 1);
        reason(2, 1, 2);
        reason(2, 2, 1);
        reason(3, 1, 2, 3);
        reason(3, 3, 2, 1);
        reason(5, 1, 2, 3, 5);
        reason(5, 5, 3, 2, 1);
        reason(5, 1, 1, 5, 3, 2, 2);
        Booker x = obstacles(1, 2, 5, 3);
        x.addSeason(21, 21, 3);
        check.refused("the stay comes before the gap", 4, x, () -> x.book(0, 2, 2, 5, 20, 2));
        Booker y = obstacles(1, 2, 3);
        y.addSeason(21, 21, 3);
        check.refused("the power comes before the stay", 3, y, () -> y.book(0, 2, 2, 5, 20, 2));
    }

    /** One move would bring a party that is in the way of the new one to a pitch that has too little power. */
    private void asAllIsNow() {
        Booker x = Sites.site(2, 8, 6, 0);
        x.book(0, 2, 2, 5, 0, 3);
        x.addPitch(0, 2, 2, 1);
        x.setLimit(1, 4);
        check.refused("taken now", TAKEN, x, () -> x.book(2, 8, 6, 16, 1, 2));
        x.setLimit(0, 15);
        check.refused("taken, and too much power", TAKEN, x, () -> x.book(2, 8, 6, 16, 1, 2));
        check.refused("too much power", POWER, x, () -> x.book(2, 8, 6, 16, 3, 2));
    }

    private void numberIfBooked() {
        Booker x = Sites.wide();
        check.is("a first one", 0, Sites.stay(x, 0, 2));
        check.refused("a second one", TAKEN, x, () -> Sites.stay(x, 1, 2));
        check.refused("and again", TAKEN, x, () -> Sites.stay(x, 1, 2));
        check.is("the next number", 1, Sites.stay(x, 2, 2));
        for (int i = 2; i < 11; i++) {
            Sites.stay(x, 2 * i, 2);
        }
        for (int i = 0; i < 3; i++) {
            check.refused("a 12th one", TAKEN, x, () -> Sites.stay(x, 1, 2));
        }
        check.is("the last number", 11, Sites.stay(x, 58, 2));
        check.fails("a 13th", STATE, x, () -> Sites.stay(x, 1, 2));
    }

    private void price() {
        int[][] prices = {{10, 0, 1, 10}, {1, 0, 1, 1}, {99, 16, 14, 1610}, {99, 0, 14, 1386}, {1, 16, 3, 51},
            {7, 2, 5, 45}};
        for (int[] row : prices) {
            Booker x = Sites.wide();
            x.setRate(0, row[0]);
            x.book(0, 5, 5, row[1], 10, row[2]);
            check.is("rate " + row[0] + ", power " + row[1] + ", nights " + row[2], row[3], x.party(0, 7));
            check.is("all prices", row[3], x.account(3));
        }
        Booker y = Sites.site(0, 2, 2, -1, 0, 3, 3, -1);
        y.setRate(1, 44);
        Sites.stay(y, 0, 2);
        Sites.stay(y, 0, 2);
        check.same("each by the rate of its pitch", "20 88", Check.list(0, 1, party -> y.party(party, 7)));
    }

    private void priceIsFixed() {
        Booker x = Sites.wide();
        Sites.stay(x, 10, 3);
        x.setRate(0, 99);
        check.is("another rate", 30, x.party(0, 7));
        x.setLimit(0, 0);
        x.advance(30);
        check.is("nights that are over", 30, x.party(0, 7));
        check.is("the accounts", 30, x.account(3));
        Sites.stay(x, 40, 3);
        check.is("a new party", 297, x.party(1, 7));
        x.setRate(0, 1);
        x.cancel(1);
        check.is("a cancelled one", 297, x.party(1, 7));
    }

    private void priceBehindMove() {
        Booker x = Sites.site(2, 8, 6, 0);
        x.book(0, 2, 2, 4, 0, 3);
        x.addPitch(0, 2, 2, 1);
        x.setRate(1, 50);
        x.move(0, 1);
        check.is("a move by move", 42, x.party(0, 7));
        x.undo();
        x.book(2, 8, 6, 0, 0, 3);
        check.same("a move by a plan", "0 0 1", Sites.plan(x));
        check.is("its price", 42, x.party(0, 7));
        check.is("the fee by that price", 42, x.cancel(0));
    }

    private void whoCanBeCancelled() {
        Booker x = Sites.plain();
        Sites.stay(x, 4, 3);
        Sites.stay(x, 7, 1);
        Sites.stay(x, 8, 1);
        x.advance(7);
        check.fails("before tonight, the last night over", STATE, x, () -> x.cancel(0));
        check.is("tonight", 10, x.cancel(1));
        check.fails("cancelled already", STATE, x, () -> x.cancel(1));
        check.is("the next night", 10, x.cancel(2));
        x.undo();
        x.advance(1);
        check.is("the next night has come", 10, x.cancel(2));
        x.undo();
        x.advance(1);
        check.fails("it is over", STATE, x, () -> x.cancel(2));
    }

    private void fees() {
        int[] due = {11, 11, 11, 5, 5, 5, 5, 0, 0};
        for (int tonight : new int[] {0, 20, 51}) {
            for (int between = 0; between < due.length; between++) {
                Booker x = Sites.plain();
                x.setRate(0, 11);
                x.advance(tonight);
                Sites.stay(x, tonight + between, 1);
                check.is("with " + between + " nights between from " + tonight, due[between], x.cancel(0));
                check.is("the fee is kept", due[between], x.party(0, 9));
                check.is("the account", due[between], x.account(4));
            }
        }
    }

    private void halfPrice() {
        int[][] halves = {{1, 0, 1, 0}, {2, 0, 1, 1}, {3, 0, 1, 1}, {99, 16, 14, 805}, {99, 0, 3, 148}};
        for (int[] row : halves) {
            Booker x = Sites.wide();
            x.setRate(0, row[0]);
            x.book(0, 1, 1, row[1], 6, row[2]);
            check.is("half of " + x.party(0, 7), row[3], x.cancel(0));
        }
    }
}
