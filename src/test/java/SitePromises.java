/** The promises 1 to 10 of the document. */
final class SitePromises extends Chapter {
    SitePromises(Check check) {
        super(check);
    }

    @Override
    void tell(Sentences all) {
        all.in("Promise 1");
        all.hold("Creates a booker without pitches, seasons and parties", this::newObject);
        tellPitches(all);
        tellSettings(all);
        tellSeasons(all);
    }

    private void tellPitches(Sentences all) {
        all.in("Promise 2");
        all.skip("The site.");
        all.hold("Makes a pitch with the rate 10.", this::rateOfNewPitch);
        all.hold("`kind`", this::kindOfPitch);
        all.hold("`length`", this::lengthOfPitch);
        all.hold("`breadth`", this::breadthOfPitch);
        all.hold("`circuit`", this::circuitOfPitch);
        all.hold("Returns the number of the pitch.", this::numberOfPitch);
        all.hold("Throws `IllegalArgumentException`", this::wrongPitch);
        all.hold("Throws `IllegalStateException` if 6 pitches were made", this::seventhPitch);
        all.in("Promise 3");
        all.hold("Returns a number of a pitch.", this::pitch);
        all.hold("`pitch`", this::pitchOfPitch);
        all.hold("`what`", this::whatOfPitch);
        all.hold("Returns the number.", this::nightsAndGapsOfPitch);
        all.hold("Throws `IndexOutOfBoundsException`", this::noSuchPitch);
        all.hold("Throws `IllegalArgumentException` if what is not from 0 to 6", this::wrongWhatOfPitch);
    }

    private void tellSettings(Sentences all) {
        all.in("Promise 4");
        all.hold("Sets the limit of a circuit.", this::setLimit);
        all.hold("Parties that are booked stay, whatever it is.", this::partiesStay);
        all.hold("`circuit`", this::circuitOfLimit);
        all.hold("`limit`", this::limit);
        all.hold("Returns the limit before.", this::limitBefore);
        all.hold("Throws `IndexOutOfBoundsException`", this::noSuchCircuit);
        all.hold("Throws `IllegalArgumentException`", this::wrongLimit);
        all.in("Promise 5");
        all.hold("Sets the rate of a pitch.", this::setRate);
        all.hold("`pitch`", this::pitchOfRate);
        all.hold("`rate`", this::rate);
        all.hold("Returns the rate before.", this::rateBefore);
        all.hold("Throws `IndexOutOfBoundsException`", this::noSuchPitchOfRate);
        all.hold("Throws `IllegalArgumentException`", this::wrongRate);
        all.in("Promise 6");
        all.hold("Sets the gap limit.", this::setGap);
        all.hold("`limit`", this::gapLimit);
        all.hold("Returns the gap limit before.", this::gapLimitBefore);
        all.hold("Throws `IllegalArgumentException`", this::wrongGapLimit);
    }

    private void tellSeasons(Sentences all) {
        all.in("Promise 7");
        all.hold("Adds a season.", this::addSeason);
        all.hold("`first`", this::firstOfSeason);
        all.hold("`last`", this::lastOfSeason);
        all.hold("`stay`", this::stayOfSeason);
        all.hold("Returns the number of the season.", this::numberOfSeason);
        all.hold("Throws `IllegalArgumentException`", this::wrongSeason);
        all.hold("Throws `IllegalStateException` if 4 seasons are kept", this::fifthSeason);
        all.in("Promise 8");
        all.hold("Drops a season.", this::dropSeason);
        all.hold("The numbers of the later ones decrease by 1.", this::laterSeasons);
        all.hold("`season`", this::seasonToDrop);
        all.hold("Returns the number of seasons that remain.", this::seasonsThatRemain);
        all.hold("Throws `IndexOutOfBoundsException`", this::noSuchSeasonToDrop);
        all.in("Promise 9");
        all.hold("Returns a number of a season.", this::season);
        all.hold("`season`", this::seasonOfSeason);
        all.hold("`what`", this::whatOfSeason);
        all.hold("Returns the number.", this::whatOfSeason);
        all.hold("Throws `IndexOutOfBoundsException`", this::noSuchSeason);
        all.hold("Throws `IllegalArgumentException` if what is not from 0 to 2", this::wrongWhatOfSeason);
        all.in("Promise 10");
        all.hold("Returns the least stay that seasons ask of a stay", this::whateverItFills);
        all.hold("`first`", this::firstOfStay);
        all.hold("`nights`", this::nightsOfStay);
        all.hold("Returns the greatest least stay of the seasons", this::greatestStay);
        all.hold("Throws `IllegalArgumentException`", this::wrongStay);
    }

    private void newObject() {
        Booker x = new Booker();
        check.same("accounts", "0 0 0 0 0 0 0 0", Check.list(0, 7, x::account));
        check.is("tonight", 0, x.tonight());
        check.same("latest", "-1 0", x.faultPosition() + " " + x.moves());
        check.fails("no reason", NONE, x, () -> x.refusal());
        check.fails("no pitch", INDEX, x, () -> x.pitch(0, 0));
        check.fails("no party", INDEX, x, () -> x.party(0, 0));
        check.fails("no season", INDEX, x, () -> x.season(0, 0));
        check.fails("no change", STATE, x, x::undo);
        check.fails("no snapshot", STATE, x, x::restore);
        for (int circuit = 0; circuit < 3; circuit++) {
            check.same("power", "0 0", x.power(circuit, 0) + " " + x.power(circuit, 59));
        }
        check.is("least stay", 1, x.leastStay(0, 14));
    }

    private void rateOfNewPitch() {
        Booker x = Sites.site(0, 2, 2, -1);
        x.setRate(0, 99);
        x.addPitch(2, 12, 12, 2);
        check.same("rates", "99 10", Check.list(0, 1, pitch -> x.pitch(pitch, 4)));
        x.undo();
        x.addPitch(2, 12, 12, 2);
        check.is("a rate behind undo", 10, x.pitch(1, 4));
        x.setRate(1, 50);
        x.undo();
        x.undo();
        x.addPitch(2, 12, 12, 2);
        check.is("a rate behind undo of setRate", 10, x.pitch(1, 4));
    }

    private void kindOfPitch() {
        check.takes("kind", 0, 2, Booker::new, (x, n) -> x.addPitch(n, 3, 4, 1), (x, n) -> x.pitch(0, 0));
        check.refuses("kind", ARGUMENT, 0, 2, new Booker(), (x, n) -> x.addPitch(n, 3, 4, 1));
    }

    private void lengthOfPitch() {
        check.takes("length", 2, 12, Booker::new, (x, n) -> x.addPitch(1, n, 4, 1), (x, n) -> x.pitch(0, 1));
        check.refuses("length", ARGUMENT, 2, 12, new Booker(), (x, n) -> x.addPitch(1, n, 4, 1));
    }

    private void breadthOfPitch() {
        check.takes("breadth", 2, 12, Booker::new, (x, n) -> x.addPitch(1, 3, n, 1), (x, n) -> x.pitch(0, 2));
        check.refuses("breadth", ARGUMENT, 2, 12, new Booker(), (x, n) -> x.addPitch(1, 3, n, 1));
    }

    private void circuitOfPitch() {
        check.takes("circuit", -1, 2, Booker::new, (x, n) -> x.addPitch(1, 3, 4, n), (x, n) -> x.pitch(0, 3));
        check.refuses("circuit", ARGUMENT, -1, 2, new Booker(), (x, n) -> x.addPitch(1, 3, 4, n));
    }

    private void numberOfPitch() {
        Booker x = new Booker();
        for (int i = 0; i < 6; i++) {
            check.is("number", i, x.addPitch(0, 2, 2, -1));
            check.is("account", i + 1, x.account(0));
        }
    }

    private void wrongPitch() {
        Booker x = Sites.wide();
        check.fails("all numbers", ARGUMENT, x, () -> x.addPitch(-1, 1, 1, -2));
        check.fails("only the first", ARGUMENT, x, () -> x.addPitch(3, 2, 2, -1));
        check.fails("only the second", ARGUMENT, x, () -> x.addPitch(0, 1, 2, -1));
        check.fails("only the third", ARGUMENT, x, () -> x.addPitch(0, 2, 1, -1));
        check.fails("only the fourth", ARGUMENT, x, () -> x.addPitch(0, 2, 2, -2));
        check.is("none", 1, x.addPitch(0, 2, 2, -1));
    }

    private void seventhPitch() {
        Booker x = Sites.site(0, 2, 2, -1, 0, 2, 2, -1, 0, 2, 2, -1, 0, 2, 2, -1, 0, 2, 2, -1);
        check.is("a sixth", 5, x.addPitch(0, 2, 2, -1));
        check.fails("a seventh", STATE, x, () -> x.addPitch(0, 2, 2, -1));
        check.fails("a wrong seventh", ARGUMENT, x, () -> x.addPitch(0, 2, 2, 3));
        x.undo();
        check.is("a sixth again", 5, x.addPitch(0, 2, 2, -1));
    }

    private void pitch() {
        Booker x = Sites.site(2, 8, 6, 0, 1, 7, 5, -1);
        x.setRate(1, 77);
        check.same("pitch 0", "2 8 6 0 10 0 0", Check.list(0, 6, what -> x.pitch(0, what)));
        check.same("pitch 1", "1 7 5 -1 77 0 0", Check.list(0, 6, what -> x.pitch(1, what)));
    }

    private void pitchOfPitch() {
        Booker x = Sites.site(0, 2, 2, -1, 0, 3, 2, -1, 0, 4, 2, -1, 0, 5, 2, -1, 0, 6, 2, -1, 0, 7, 2, -1);
        check.same("lengths", "2 3 4 5 6 7", Check.list(0, 5, pitch -> x.pitch(pitch, 1)));
    }

    private void whatOfPitch() {
        Booker x = Sites.site(1, 8, 6, 2);
        x.setRate(0, 33);
        x.setGap(0);
        Sites.stay(x, 3, 4);
        Sites.stay(x, 8, 5);
        x.setGap(1);
        check.same("0 to 6", "1 8 6 2 33 9 1", Check.list(0, 6, what -> x.pitch(0, what)));
    }

    private void nightsAndGapsOfPitch() {
        Booker x = Sites.plain();
        check.same("none", "0 0", Check.list(5, 6, what -> x.pitch(0, what)));
        for (int first : new int[] {0, 14, 28, 42}) {
            Sites.stay(x, first, 14);
        }
        Sites.stay(x, 56, 4);
        check.same("all nights", "60 0", Check.list(5, 6, what -> x.pitch(0, what)));
        x.cancel(4);
        check.same("all but the last ones", "56 0", Check.list(5, 6, what -> x.pitch(0, what)));
        Sites.stay(x, 59, 1);
        x.setGap(5);
        check.same("with a gap", "57 1", Check.list(5, 6, what -> x.pitch(0, what)));
    }

    private void noSuchPitch() {
        check.refuses("no pitch", INDEX, 1, 0, new Booker(), (x, n) -> x.pitch(n, 0));
        check.refuses("of one pitch", INDEX, 0, 0, Sites.wide(), (x, n) -> x.pitch(n, 0));
        check.refuses("and what", INDEX, 0, 0, Sites.wide(), (x, n) -> x.pitch(n, 7));
    }

    private void wrongWhatOfPitch() {
        check.refuses("what", ARGUMENT, 0, 6, Sites.wide(), (x, n) -> x.pitch(0, n));
    }

    private void setLimit() {
        Booker x = Sites.site(0, 2, 2, 1);
        x.setLimit(1, 5);
        check.refused("6", 3, x, () -> x.book(0, 1, 1, 6, 0, 1));
        x.setLimit(1, 6);
        check.is("a greater limit", 0, x.book(0, 1, 1, 6, 0, 1));
        x.setLimit(0, 0);
        x.setLimit(2, 0);
        check.is("other circuits", 1, x.book(0, 1, 1, 6, 1, 1));
    }

    private void partiesStay() {
        Booker x = Sites.site(0, 2, 2, 1, 0, 3, 3, 1);
        x.book(0, 2, 2, 9, 5, 3);
        x.book(0, 2, 2, 7, 5, 3);
        x.setLimit(1, 0);
        check.same("places", "0 1", Sites.places(x));
        check.same("booked", "1 1", Check.list(0, 1, party -> x.party(party, 8)));
        check.is("power", 16, x.power(1, 6));
        check.same("prices", "57 51", Check.list(0, 1, party -> x.party(party, 7)));
    }

    private void circuitOfLimit() {
        Booker x = new Booker();
        check.same("each", "16 16 16", Check.list(0, 2, circuit -> x.setLimit(circuit, circuit)));
        check.same("its own", "0 1 2", Check.list(0, 2, circuit -> x.setLimit(circuit, 9)));
    }

    private void limit() {
        check.takes("limit", 0, 40, Booker::new, (x, n) -> x.setLimit(2, n), (x, n) -> x.setLimit(2, 7));
        Booker x = Sites.site(0, 2, 2, 0, 0, 2, 2, 0, 0, 2, 2, 0);
        x.setLimit(0, 40);
        x.book(0, 2, 2, 16, 0, 1);
        x.book(0, 2, 2, 16, 0, 1);
        check.refused("41", 3, x, () -> x.book(0, 2, 2, 9, 0, 1));
        check.is("40", 2, x.book(0, 2, 2, 8, 0, 1));
    }

    private void limitBefore() {
        Booker x = new Booker();
        check.is("at first", 16, x.setLimit(0, 40));
        check.is("then", 40, x.setLimit(0, 0));
        check.is("then", 0, x.setLimit(0, 3));
        x.undo();
        check.is("behind undo", 0, x.setLimit(0, 3));
    }

    private void noSuchCircuit() {
        check.refuses("circuit", INDEX, 0, 2, Sites.wide(), (x, n) -> x.setLimit(n, 1));
        check.refuses("circuit and limit", INDEX, 0, 2, Sites.wide(), (x, n) -> x.setLimit(n, 41));
    }

    private void wrongLimit() {
        check.refuses("limit", ARGUMENT, 0, 40, Sites.wide(), (x, n) -> x.setLimit(0, n));
    }

    private void setRate() {
        Booker x = Sites.site(0, 2, 2, -1, 0, 3, 3, -1);
        x.setRate(1, 50);
        check.same("rates", "10 50", Check.list(0, 1, pitch -> x.pitch(pitch, 4)));
        Sites.stay(x, 0, 2);
        Sites.stay(x, 0, 2);
        check.same("prices", "20 100", Check.list(0, 1, party -> x.party(party, 7)));
    }

    private void pitchOfRate() {
        Booker x = Sites.site(0, 2, 2, -1, 0, 2, 2, -1, 0, 2, 2, -1, 0, 2, 2, -1, 0, 2, 2, -1, 0, 2, 2, -1);
        for (int i = 0; i < 6; i++) {
            x.setRate(i, i + 20);
        }
        check.same("rates", "20 21 22 23 24 25", Check.list(0, 5, pitch -> x.pitch(pitch, 4)));
    }

    private void rate() {
        check.takes("rate", 1, 99, Sites::wide, (x, n) -> x.setRate(0, n), (x, n) -> x.pitch(0, 4));
    }

    private void rateBefore() {
        Booker x = Sites.wide();
        check.is("at first", 10, x.setRate(0, 99));
        check.is("then", 99, x.setRate(0, 1));
        check.is("then", 1, x.setRate(0, 50));
    }

    private void noSuchPitchOfRate() {
        check.refuses("no pitch", INDEX, 1, 0, new Booker(), (x, n) -> x.setRate(n, 1));
        check.refuses("of one pitch", INDEX, 0, 0, Sites.wide(), (x, n) -> x.setRate(n, 1));
        check.refuses("and rate", INDEX, 0, 0, Sites.wide(), (x, n) -> x.setRate(n, 100));
    }

    private void wrongRate() {
        check.refuses("rate", ARGUMENT, 1, 99, Sites.wide(), (x, n) -> x.setRate(0, n));
    }

    private void setGap() {
        Booker x = Sites.wide();
        Sites.stay(x, 0, 1);
        x.setGap(2);
        check.refused("a row of 2", 5, x, () -> Sites.stay(x, 3, 1));
        x.setGap(1);
        check.is("a row of 2 is none", 1, Sites.stay(x, 3, 1));
        x.setGap(2);
        check.is("it is one again", 1, x.account(5));
    }

    private void gapLimit() {
        check.takes("limit", 0, 5, Booker::new, (x, n) -> x.setGap(n), (x, n) -> x.setGap(3));
    }

    private void gapLimitBefore() {
        Booker x = new Booker();
        check.is("at first", 1, x.setGap(5));
        check.is("then", 5, x.setGap(0));
        check.is("then", 0, x.setGap(2));
        x.undo();
        check.is("behind undo", 0, x.setGap(2));
    }

    private void wrongGapLimit() {
        check.refuses("limit", ARGUMENT, 0, 5, Sites.wide(), (x, n) -> x.setGap(n));
    }

    private void addSeason() {
        Booker x = Sites.plain();
        x.addSeason(10, 12, 4);
        check.same("season", "10 12 4", Check.list(0, 2, what -> x.season(0, what)));
        check.refused("3 nights", 4, x, () -> Sites.stay(x, 12, 3));
        check.is("4 nights", 0, Sites.stay(x, 12, 4));
        check.is("the same season again", 1, x.addSeason(10, 12, 4));
    }

    private void firstOfSeason() {
        check.takes("first", 0, 59, Booker::new, (x, n) -> x.addSeason(n, 59, 5), (x, n) -> x.season(0, 0));
    }

    private void lastOfSeason() {
        check.takes("last", 0, 59, Booker::new, (x, n) -> x.addSeason(0, n, 5), (x, n) -> x.season(0, 1));
        check.takes("last", 20, 59, Booker::new, (x, n) -> x.addSeason(20, n, 5), (x, n) -> x.season(0, 1));
        check.refuses("last", ARGUMENT, 20, 59, new Booker(), (x, n) -> x.addSeason(20, n, 5));
    }

    private void stayOfSeason() {
        check.takes("stay", 1, 14, Booker::new, (x, n) -> x.addSeason(0, 59, n), (x, n) -> x.season(0, 2));
        check.refuses("stay", ARGUMENT, 1, 14, new Booker(), (x, n) -> x.addSeason(0, 59, n));
    }

    private void numberOfSeason() {
        Booker x = new Booker();
        for (int i = 0; i < 4; i++) {
            check.is("number", i, x.addSeason(0, 59, 1));
            check.is("account", i + 1, x.account(7));
        }
    }

    private void wrongSeason() {
        Booker x = new Booker();
        check.fails("all numbers", ARGUMENT, x, () -> x.addSeason(-1, 60, 0));
        check.fails("only the first", ARGUMENT, x, () -> x.addSeason(-1, 59, 1));
        check.fails("only the second", ARGUMENT, x, () -> x.addSeason(0, 60, 1));
        check.fails("only the third", ARGUMENT, x, () -> x.addSeason(0, 59, 0));
        check.fails("first and last", ARGUMENT, x, () -> x.addSeason(60, 60, 1));
        check.fails("last before first", ARGUMENT, x, () -> x.addSeason(59, 58, 1));
        check.is("none", 0, x.addSeason(59, 59, 1));
    }

    private void fifthSeason() {
        Booker x = new Booker();
        for (int i = 0; i < 3; i++) {
            x.addSeason(i, i, 1);
        }
        check.is("a fourth", 3, x.addSeason(0, 59, 14));
        check.fails("a fifth", STATE, x, () -> x.addSeason(0, 59, 14));
        check.fails("a wrong fifth", ARGUMENT, x, () -> x.addSeason(0, 60, 14));
        x.undo();
        check.is("a fourth again", 3, x.addSeason(0, 59, 14));
    }

    private static Booker fourSeasons() {
        Booker x = Sites.plain();
        for (int i = 0; i < 4; i++) {
            x.addSeason(10 * i, 10 * i + i, 2 + i);
        }
        return x;
    }

    private void dropSeason() {
        Booker x = fourSeasons();
        check.is("with it", 4, x.leastStay(22, 1));
        x.dropSeason(2);
        check.is("without it", 1, x.leastStay(22, 1));
        check.is("with another", 5, x.leastStay(30, 1));
        check.is("a stay that was too short", 0, Sites.stay(x, 20, 1));
    }

    private void laterSeasons() {
        for (int number = 0; number < 4; number++) {
            Booker x = fourSeasons();
            x.dropSeason(number);
            for (int i = 0; i < 3; i++) {
                int old = i < number ? i : i + 1;
                int season = i;
                check.same("season " + i + " without " + number, 10 * old + " " + (10 * old + old) + " " + (2 + old),
                        Check.list(0, 2, what -> x.season(season, what)));
            }
            check.fails("a last one", INDEX, x, () -> x.season(3, 0));
        }
    }

    private void seasonToDrop() {
        Booker x = fourSeasons();
        x.dropSeason(3);
        x.dropSeason(0);
        check.same("firsts", "10 20 IndexOutOfBoundsException", Check.list(0, 2, season -> x.season(season, 0)));
    }

    private void seasonsThatRemain() {
        Booker x = fourSeasons();
        for (int i = 3; i >= 0; i--) {
            check.is("seasons", i, x.dropSeason(i / 2));
            check.is("account", i, x.account(7));
        }
    }

    private void noSuchSeasonToDrop() {
        check.refuses("no season", INDEX, 1, 0, new Booker(), (x, n) -> x.dropSeason(n));
        check.refuses("of four", INDEX, 0, 3, fourSeasons(), (x, n) -> x.dropSeason(n));
        Booker x = fourSeasons();
        x.dropSeason(0);
        check.refuses("of three", INDEX, 0, 2, x, (y, n) -> y.dropSeason(n));
    }

    private void season() {
        Booker x = new Booker();
        x.addSeason(3, 44, 13);
        x.addSeason(0, 59, 1);
        check.same("season 0", "3 44 13", Check.list(0, 2, what -> x.season(0, what)));
        check.same("season 1", "0 59 1", Check.list(0, 2, what -> x.season(1, what)));
    }

    private void seasonOfSeason() {
        Booker x = fourSeasons();
        check.same("stays", "2 3 4 5", Check.list(0, 3, season -> x.season(season, 2)));
    }

    private void whatOfSeason() {
        Booker x = fourSeasons();
        check.same("0 to 2", "20 22 4", Check.list(0, 2, what -> x.season(2, what)));
    }

    private void noSuchSeason() {
        check.refuses("no season", INDEX, 1, 0, new Booker(), (x, n) -> x.season(n, 0));
        check.refuses("of four", INDEX, 0, 3, fourSeasons(), (x, n) -> x.season(n, 0));
        check.refuses("and what", INDEX, 0, 3, fourSeasons(), (x, n) -> x.season(n, 3));
    }

    private void wrongWhatOfSeason() {
        check.refuses("what", ARGUMENT, 0, 2, fourSeasons(), (x, n) -> x.season(0, n));
    }

    private void whateverItFills() {
        Booker x = Sites.plain();
        Sites.stay(x, 10, 2);
        Sites.stay(x, 14, 2);
        x.addSeason(12, 12, 7);
        check.is("a space", 7, x.leastStay(12, 2));
        check.is("it can be booked", 2, Sites.stay(x, 12, 2));
        check.is("it is booked", 7, x.leastStay(12, 2));
        x.advance(40);
        check.is("nights that are over", 7, x.leastStay(12, 1));
    }

    private void firstOfStay() {
        check.takes("first", 0, 59, Booker::new, (x, n) -> x.leastStay(n, 1), (x, n) -> n);
        check.refuses("first", ARGUMENT, 0, 59, new Booker(), (x, n) -> x.leastStay(n, 1));
    }

    private void nightsOfStay() {
        check.takes("nights", 1, 14, Booker::new, (x, n) -> x.leastStay(0, n), (x, n) -> n);
        check.refuses("nights", ARGUMENT, 1, 14, new Booker(), (x, n) -> x.leastStay(0, n));
    }

    private void greatestStay() {
        Booker x = new Booker();
        check.is("without seasons", 1, x.leastStay(0, 14));
        x.addSeason(10, 20, 5);
        x.addSeason(15, 30, 3);
        x.addSeason(18, 18, 9);
        check.is("ahead of all", 1, x.leastStay(8, 2));
        check.is("up to the first night", 5, x.leastStay(8, 3));
        check.is("the greater of two", 5, x.leastStay(15, 3));
        check.is("the greatest of three", 9, x.leastStay(15, 4));
        check.is("the greater of two again", 5, x.leastStay(19, 2));
        check.is("behind the first season", 3, x.leastStay(21, 1));
        check.is("from the last night", 3, x.leastStay(30, 14));
        check.is("behind all", 1, x.leastStay(31, 14));
        check.is("all of them", 9, x.leastStay(12, 14));
        x.addSeason(0, 0, 14);
        check.is("night 0", 14, x.leastStay(0, 1));
        check.is("night 1", 1, x.leastStay(1, 1));
        x.dropSeason(3);
        x.addSeason(59, 59, 14);
        check.is("night 59", 14, x.leastStay(59, 1));
        check.is("up to night 58", 1, x.leastStay(58, 1));
        check.is("up to night 59", 14, x.leastStay(46, 14));
    }

    private void wrongStay() {
        Booker x = new Booker();
        check.is("up to 59", 1, x.leastStay(46, 14));
        check.is("night 59", 1, x.leastStay(59, 1));
        check.fails("14 nights up to 60", ARGUMENT, x, () -> x.leastStay(47, 14));
        check.fails("2 nights up to 60", ARGUMENT, x, () -> x.leastStay(59, 2));
        check.fails("both numbers", ARGUMENT, x, () -> x.leastStay(60, 0));
        check.fails("from -1 on", ARGUMENT, x, () -> x.leastStay(-1, 2));
        check.fails("a sum that wraps", ARGUMENT, x, () -> x.leastStay(Integer.MAX_VALUE, 14));
        check.fails("nights that wrap", ARGUMENT, x, () -> x.leastStay(59, Integer.MAX_VALUE));
    }
}
