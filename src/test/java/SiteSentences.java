/** The paragraphs of the document from "What it is" to "Fitting". */
final class SiteSentences extends Chapter {
    SiteSentences(Check check) {
        super(check);
    }

    @Override
    void tell(Sentences all) {
        all.in("What it is");
        all.skip("A booker for a small campsite:");
        all.hold("An object is used for at most 512 calls", this::lastCall);
        all.in("Nights");
        all.hold("Nights are numbered from 0 to 59.", this::nights);
        all.hold("Tonight is a night, 0 at first; it can become 60", this::tonight);
        all.in("Pitches");
        all.hold("At most 6 pitches are made, numbered from 0.", this::pitches);
        all.hold("A pitch has a kind from 0 to 2", this::pitchNumbers);
        all.hold("Each circuit has a limit from 0 to 40", this::limits);
        all.in("Parties");
        all.hold("At most 12 parties are ever booked", this::parties);
        all.hold("A party has a kind from 0 to 2", this::partyNumbers);
        all.hold("It is booked or cancelled.", this::bookedOrCancelled);
        all.hold("A booked party is on its pitch in all of its nights", this::onItsPitch);
        all.hold("A booked party is on its pitch in all of its nights", this::cancelledIsNowhere);
        all.in("Fitting");
        all.hold("A party fits on a pitch if", this::fitByKind);
        all.hold("A party fits on a pitch if", this::fitByShape);
        all.hold("A party fits on a pitch if", this::fitByPower);
        all.hold("The waste of a party on a pitch", this::waste);
    }

    private void lastCall() {
        check.is("book", 0, Sites.stay(long511(), 59, 1));
        check.is("undo", 7, long511().undo());
        check.is("addSeason", 0, long511().addSeason(0, 59, 14));
        Booker x = long511();
        check.same("a call that throws", "IllegalArgumentException", Check.outcome(() -> x.advance(61)));
        check.is("calls", 512, x.callsMade());
    }

    private static Booker long511() {
        Booker x = Sites.wide();
        for (int i = 1; i < 511; i++) {
            x.advance(0);
        }
        return x;
    }

    private void nights() {
        check.takes("night of occupant", 0, 59, Sites::wide, (x, n) -> x.occupant(0, n), (x, n) -> n);
        check.takes("night of power", 0, 59, Sites::wide, (x, n) -> x.power(0, n), (x, n) -> n);
        check.takes("season", 0, 59, Booker::new, (x, n) -> x.addSeason(n, n, 1), (x, n) -> x.season(0, 0));
        check.takes("first of leastStay", 0, 59, Booker::new, (x, n) -> x.leastStay(n, 1), (x, n) -> n);
        check.takes("first of book", 0, 59, Sites::wide, (x, n) -> Sites.stay(x, n, 1), (x, n) -> x.party(0, 4));
        check.takes("from", 0, 59, Sites::wide, (x, n) -> x.firstFree(0, n, 1), (x, n) -> x.firstFree(0, n, 1));
        Booker x = Sites.wide();
        check.refuses("night of occupant", INDEX, 0, 59, x, (y, n) -> y.occupant(0, n));
        check.refuses("night of power", INDEX, 0, 59, x, (y, n) -> y.power(0, n));
        check.refuses("first of addSeason", ARGUMENT, 0, 59, x, (y, n) -> y.addSeason(n, 59, 1));
        check.refuses("last of addSeason", ARGUMENT, 0, 59, x, (y, n) -> y.addSeason(0, n, 1));
        check.refuses("first of leastStay", ARGUMENT, 0, 59, x, (y, n) -> y.leastStay(n, 1));
        check.refuses("first of book", ARGUMENT, 0, 59, x, (y, n) -> Sites.stay(y, n, 1));
        check.refuses("from of firstFree", ARGUMENT, 0, 59, x, (y, n) -> y.firstFree(0, n, 1));
    }

    private void tonight() {
        Booker x = Sites.wide();
        check.is("at first", 0, x.tonight());
        x.advance(59);
        check.is("the last night", 59, x.tonight());
        check.is("it can be booked", 0, Sites.stay(x, 59, 1));
        x.undo();
        x.advance(1);
        check.is("all nights are over", 60, x.tonight());
        check.fails("61", ARGUMENT, x, () -> x.advance(1));
        check.fails("no night is left", ARGUMENT, x, () -> Sites.stay(x, 59, 1));
        check.fails("60 is no night", ARGUMENT, x, () -> Sites.stay(x, 60, 1));
    }

    private void pitches() {
        Booker x = new Booker();
        check.fails("no pitch 0", INDEX, x, () -> x.pitch(0, 0));
        for (int i = 0; i < 6; i++) {
            check.is("number", i, x.addPitch(i % 3, 2 + i, 12 - i, i % 4 - 1));
        }
        for (int i = 0; i < 6; i++) {
            int pitch = i;
            check.same("pitch " + i, i % 3 + " " + (2 + i) + " " + (12 - i) + " " + (i % 4 - 1) + " 10 0 0",
                    Check.list(0, 6, what -> x.pitch(pitch, what)));
        }
        check.fails("no pitch 6", INDEX, x, () -> x.pitch(6, 0));
        check.fails("a seventh", STATE, x, () -> x.addPitch(0, 2, 2, 0));
        x.undo();
        check.fails("no pitch 5 behind undo", INDEX, x, () -> x.pitch(5, 0));
        check.is("its number is given again", 5, x.addPitch(0, 2, 2, 0));
    }

    private void pitchNumbers() {
        for (int kind = 0; kind <= 2; kind++) {
            check.same("kind", kind + " 2 2 -1", firstFour(Sites.site(kind, 2, 2, -1)));
        }
        for (int side = 2; side <= 12; side++) {
            check.same("length", "0 " + side + " 2 -1", firstFour(Sites.site(0, side, 2, -1)));
            check.same("breadth", "0 2 " + side + " -1", firstFour(Sites.site(0, 2, side, -1)));
        }
        for (int circuit = -1; circuit <= 2; circuit++) {
            check.same("circuit", "0 2 2 " + circuit, firstFour(Sites.site(0, 2, 2, circuit)));
        }
        Booker x = Sites.wide();
        for (int rate = 1; rate <= 99; rate++) {
            x.setRate(0, rate);
            check.is("rate", rate, x.pitch(0, 4));
        }
        Booker y = Sites.wide();
        check.refuses("kind", ARGUMENT, 0, 2, y, (z, n) -> z.addPitch(n, 2, 2, 0));
        check.refuses("length", ARGUMENT, 2, 12, y, (z, n) -> z.addPitch(0, n, 2, 0));
        check.refuses("breadth", ARGUMENT, 2, 12, y, (z, n) -> z.addPitch(0, 2, n, 0));
        check.refuses("circuit", ARGUMENT, -1, 2, y, (z, n) -> z.addPitch(0, 2, 2, n));
        check.refuses("rate", ARGUMENT, 1, 99, y, (z, n) -> z.setRate(0, n));
    }

    private static String firstFour(Booker x) {
        return Check.list(0, 3, what -> x.pitch(0, what));
    }

    private void limits() {
        Booker x = new Booker();
        check.same("at first", "16 16 16", Check.list(0, 2, circuit -> x.setLimit(circuit, 0)));
        for (int limit = 0; limit <= 40; limit++) {
            x.setLimit(2, limit);
            check.is("limit", limit, x.setLimit(2, limit));
        }
        check.same("each has its own", "0 0 40", Check.list(0, 2, circuit -> x.setLimit(circuit, 5)));
        check.refuses("limit", ARGUMENT, 0, 40, x, (y, n) -> y.setLimit(1, n));
        check.refuses("circuit", INDEX, 0, 2, x, (y, n) -> y.setLimit(n, 5));
    }

    private void parties() {
        Booker x = Sites.wide();
        check.fails("no party 0", INDEX, x, () -> x.party(0, 0));
        for (int i = 0; i < 12; i++) {
            check.is("number", i, x.book(0, 1 + i, 1, 0, 4 * i, 4));
        }
        check.same("lengths", "1 2 3 4 5 6 7 8 9 10 11 12", Check.list(0, 11, party -> x.party(party, 1)));
        check.fails("no party 12", INDEX, x, () -> x.party(12, 0));
        check.fails("a 13th", STATE, x, () -> Sites.stay(x, 50, 1));
        x.cancel(11);
        check.fails("a cancelled one counts", STATE, x, () -> Sites.stay(x, 50, 1));
        x.undo();
        x.undo();
        check.is("an undone one does not", 11, Sites.stay(x, 50, 1));
    }

    private void partyNumbers() {
        for (int kind = 0; kind <= 2; kind++) {
            check.same("kind", kind + " 1 1 0 5 1 0", firstSeven(kind, 1, 1, 0, 5, 1));
        }
        for (int side = 1; side <= 12; side++) {
            check.same("length", "0 " + side + " 1 0 5 1 0", firstSeven(0, side, 1, 0, 5, 1));
            check.same("breadth", "0 1 " + side + " 0 5 1 0", firstSeven(0, 1, side, 0, 5, 1));
        }
        for (int power = 0; power <= 16; power++) {
            check.same("power", "0 1 1 " + power + " 5 1 0", firstSeven(0, 1, 1, power, 5, 1));
        }
        for (int nights = 1; nights <= 14; nights++) {
            check.same("nights", "0 1 1 0 " + (60 - nights) + " " + nights + " 0",
                    firstSeven(0, 1, 1, 0, 60 - nights, nights));
        }
        Booker x = Sites.wide();
        check.refuses("kind", ARGUMENT, 0, 2, x, (y, n) -> y.book(n, 1, 1, 0, 5, 1));
        check.refuses("length", ARGUMENT, 1, 12, x, (y, n) -> y.book(0, n, 1, 0, 5, 1));
        check.refuses("breadth", ARGUMENT, 1, 12, x, (y, n) -> y.book(0, 1, n, 0, 5, 1));
        check.refuses("power", ARGUMENT, 0, 16, x, (y, n) -> y.book(0, 1, 1, n, 5, 1));
        check.refuses("nights", ARGUMENT, 1, 14, x, (y, n) -> y.book(0, 1, 1, 0, 5, n));
    }

    private static String firstSeven(int kind, int length, int breadth, int power, int first, int nights) {
        Booker x = Sites.wide();
        x.book(kind, length, breadth, power, first, nights);
        return Check.list(0, 6, what -> x.party(0, what));
    }

    private void bookedOrCancelled() {
        Booker x = Sites.wide();
        Sites.stay(x, 5, 3);
        check.same("booked", "1 1 0", x.party(0, 8) + " " + x.account(1) + " " + x.account(2));
        x.cancel(0);
        check.same("cancelled", "0 0 1", x.party(0, 8) + " " + x.account(1) + " " + x.account(2));
        x.undo();
        check.same("booked again", "1 1 0", x.party(0, 8) + " " + x.account(1) + " " + x.account(2));
    }

    private void onItsPitch() {
        Booker x = Sites.site(0, 2, 2, 1, 0, 2, 2, 1);
        x.book(0, 1, 1, 3, 5, 3);
        x.book(0, 1, 1, 4, 58, 2);
        for (int tonight = 0; tonight <= 60; tonight += 20) {
            check.same("round the first", "-1 0 0 0 -1", Check.list(4, 8, night -> x.occupant(0, night)));
            check.same("round the second", "-1 1 1", Check.list(57, 59, night -> x.occupant(0, night)));
            check.same("its power", "0 3 3 3 0", Check.list(4, 8, night -> x.power(1, night)));
            check.same("nights", "5 6 7 58 59 none", Check.list(0, 5, index -> x.busyNight(0, index)));
            check.is("not on the other pitch", 0, x.pitch(1, 5));
            if (tonight < 60) {
                x.advance(20);
            }
        }
    }

    private void cancelledIsNowhere() {
        Booker x = Sites.site(0, 2, 2, 1);
        x.setGap(0);
        x.book(0, 1, 1, 3, 5, 3);
        x.book(0, 1, 1, 4, 9, 2);
        x.setGap(1);
        check.is("a gap ahead of it", 1, x.pitch(0, 6));
        x.cancel(1);
        check.same("occupants", "-1 -1 -1 -1", Check.list(8, 11, night -> x.occupant(0, night)));
        check.same("power", "0 0", Check.list(9, 10, night -> x.power(1, night)));
        check.is("nights", 3, x.pitch(0, 5));
        check.is("gaps", 0, x.pitch(0, 6));
        check.is("room for another", 2, x.book(0, 2, 2, 16, 8, 3));
    }

    /** Whether a party alone on a pitch fits there. */
    private boolean fits(Booker x, int kind, int length, int breadth, int power) {
        String thrown = Check.outcome(() -> x.book(kind, length, breadth, power, 20, 2));
        if (thrown.equals(REFUSED.getSimpleName())) {
            check.is("the reason", 1, x.refusal());
            return false;
        }
        check.same("booked", "", thrown);
        return true;
    }

    private void fitByKind() {
        for (int kind = 0; kind <= 2; kind++) {
            for (int its = 0; its <= 2; its++) {
                boolean fits = fits(Sites.site(kind, 5, 5, -1), its, 1, 1, 0);
                check.is("kind " + its + " on " + kind, its <= kind ? 1 : 0, fits ? 1 : 0);
            }
        }
    }

    private void fitByShape() {
        int[] sides = {7, 3, 3, 7, 4, 4, 12, 12, 12, 2};
        for (int i = 0; i + 1 < sides.length; i += 2) {
            int most = Math.max(sides[i], sides[i + 1]);
            int least = Math.min(sides[i], sides[i + 1]);
            for (int length = 1; length <= 12; length++) {
                for (int breadth = 1; breadth <= 12; breadth++) {
                    boolean due = Math.max(length, breadth) <= most && Math.min(length, breadth) <= least;
                    boolean fits = fits(Sites.site(0, sides[i], sides[i + 1], -1), 0, length, breadth, 0);
                    check.is(length + "x" + breadth + " on " + sides[i] + "x" + sides[i + 1], due ? 1 : 0, fits ? 1 : 0);
                }
            }
        }
    }

    private void fitByPower() {
        check.is("no power, no circuit", 1, fits(Sites.site(0, 2, 2, -1), 0, 1, 1, 0) ? 1 : 0);
        check.is("power 1, no circuit", 0, fits(Sites.site(0, 2, 2, -1), 0, 1, 1, 1) ? 1 : 0);
        check.is("power 16, no circuit", 0, fits(Sites.site(0, 2, 2, -1), 0, 1, 1, 16) ? 1 : 0);
        check.is("no power, circuit 0", 1, fits(Sites.site(0, 2, 2, 0), 0, 1, 1, 0) ? 1 : 0);
        check.is("power 1, circuit 0", 1, fits(Sites.site(0, 2, 2, 0), 0, 1, 1, 1) ? 1 : 0);
        check.is("power 16, circuit 2", 1, fits(Sites.site(0, 2, 2, 2), 0, 1, 1, 16) ? 1 : 0);
    }

    private void waste() {
        Booker x = Sites.site(0, 4, 5, -1, 0, 2, 9, -1, 0, 3, 6, -1, 0, 12, 2, -1);
        for (int i = 0; i < 4; i++) {
            x.book(0, 2, 2, 0, 0, 1);
        }
        check.same("18, 18, 20 and 24 less 4", "1 2 0 3", Sites.places(x));
        Booker y = Sites.site(2, 12, 12, -1, 0, 12, 11, -1);
        check.is("one row less", 0, Sites.stay(y, 0, 1));
        check.is("its pitch", 1, y.party(0, 6));
    }
}
