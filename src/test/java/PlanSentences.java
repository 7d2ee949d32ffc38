/** The paragraph "Plans" of the document. */
final class PlanSentences extends Chapter {
    PlanSentences(Check check) {
        super(check);
    }

    @Override
    void tell(Sentences all) {
        all.in("Plans");
        all.hold("A plan for a new party consists of", this::upToTwoMoves);
        all.hold("A plan for a new party consists of", this::noThirdMove);
        all.hold("A plan for a new party consists of", this::bookedOnes);
        all.hold("A plan for a new party consists of", this::notBeforeTonight);
        all.hold("A plan for a new party consists of", this::differentParties);
        all.hold("A plan is right if", this::newPartyFits);
        all.hold("A plan is right if", this::movedPartyFits);
        all.hold("A plan is right if", this::twoOnOnePitch);
        all.hold("A plan is right if", this::powerOfNewParty);
        all.hold("A plan is right if", this::powerOfMovedParty);
        all.hold("A plan is right if", this::powerInSameCircuit);
        all.hold("A plan is right if", this::powerInEachNight);
        all.hold("A plan is right if", this::powerElsewhere);
        all.hold("A plan is right if", this::stayOfNewParty);
        all.hold("A plan is right if", this::stayOnItsPitch);
        all.hold("A plan is right if", this::gapsOfAllPitches);
        all.hold("A plan is right if", this::gapsBehindMove);
        all.hold("Of the right plans the best one", this::fewestMoves);
        all.hold("Of the right plans the best one", this::leastWaste);
        all.hold("Of the right plans the best one", this::lowestPitch);
        all.hold("Of the right plans the best one", this::lowestMovedParty);
        all.hold("Of the right plans the best one", this::lowestOfAllMoves);
        all.hold("Of the right plans the best one", this::highestOfAllMoves);
        all.hold("Of the right plans the best one", this::lowestNewPitch);
        all.hold("Of the right plans the best one", this::secondMove);
        all.hold("Of the right plans the best one", this::newPitchBeforeSecondParty);
        all.hold("Of the right plans the best one", this::lowerPartyFirst);
    }

    /** Two parties of 1 night are in the way of a stay from 0 to 3, a third one of a longer stay. */
    private static Booker threeInTheWay() {
        Booker x = Sites.site(2, 8, 6, -1);
        x.setGap(0);
        x.book(0, 2, 2, 0, 0, 1);
        x.book(0, 2, 2, 0, 2, 1);
        x.book(0, 2, 2, 0, 4, 1);
        x.addPitch(0, 3, 2, -1);
        return x;
    }

    private void upToTwoMoves() {
        Booker x = threeInTheWay();
        check.is("no move", 3, x.book(2, 8, 6, 0, 5, 2));
        check.same("plan", "", Sites.plan(x));
        x.undo();
        check.is("one move", 3, x.book(2, 8, 6, 0, 0, 2));
        check.same("plan", "0 0 1", Sites.plan(x));
        x.undo();
        check.is("two moves", 3, x.book(2, 8, 6, 0, 0, 4));
        check.same("plan", "0 0 1, 1 0 1", Sites.plan(x));
        check.same("places", "1 1 0 0", Sites.places(x));
    }

    private void noThirdMove() {
        Booker x = threeInTheWay();
        check.refused("three in the way", 2, x, () -> x.book(2, 8, 6, 0, 0, 5));
        check.refused("one side of them free", 2, x, () -> x.book(2, 8, 6, 0, 0, 14));
        x.move(1, 1);
        check.is("one of them is moved first", 3, x.book(2, 8, 6, 0, 0, 5));
        check.same("plan", "0 0 1, 2 0 1", Sites.plan(x));
    }

    private void bookedOnes() {
        Booker x = Sites.site(2, 8, 6, 0);
        x.book(0, 2, 2, 0, 2, 3);
        x.cancel(0);
        x.book(2, 8, 6, 0, 2, 3);
        x.addPitch(0, 4, 2, -1);
        check.refused("the cancelled one makes no room", 2, x, () -> x.book(2, 8, 6, 0, 2, 3));
        x.cancel(1);
        check.is("cancelled ones are not in the way", 2, x.book(2, 8, 6, 0, 2, 3));
        check.same("plan", "", Sites.plan(x));
    }

    private void notBeforeTonight() {
        Booker x = Sites.site(2, 8, 6, 0);
        x.book(0, 2, 2, 0, 2, 3);
        x.addPitch(0, 4, 2, -1);
        x.advance(3);
        check.refused("before tonight", 2, x, () -> x.book(2, 8, 6, 0, 3, 2));
        x.undo();
        x.advance(2);
        check.is("tonight", 1, x.book(2, 8, 6, 0, 3, 2));
        check.same("plan", "0 0 1", Sites.plan(x));
    }

    /** Moved twice, party 0 would make room for its power twice. */
    private void differentParties() {
        Booker x = Sites.site(0, 2, 2, 0);
        x.book(0, 2, 2, 5, 0, 3);
        x.addPitch(0, 2, 2, 1);
        x.addPitch(0, 2, 2, 2);
        x.addPitch(2, 9, 9, 0);
        x.setLimit(0, 9);
        check.refused("one move is not enough", 3, x, () -> x.book(2, 9, 9, 10, 0, 3));
        x.setLimit(0, 10);
        check.is("one move is enough", 1, x.book(2, 9, 9, 10, 0, 3));
        check.same("plan", "0 0 1", Sites.plan(x));
    }

    private void newPartyFits() {
        Booker x = Sites.site(1, 4, 3, 0);
        x.book(0, 2, 2, 0, 0, 3);
        x.addPitch(0, 2, 2, -1);
        check.refused("a greater kind", 1, x, () -> x.book(2, 4, 3, 0, 1, 2));
        check.refused("too long", 1, x, () -> x.book(1, 5, 3, 0, 1, 2));
        check.refused("too broad", 1, x, () -> x.book(1, 4, 4, 0, 1, 2));
        check.is("all of the pitch, turned", 1, x.book(1, 3, 4, 16, 1, 2));
        check.same("plan", "0 0 1", Sites.plan(x));
        Booker y = Sites.site(1, 4, 3, -1);
        y.book(0, 2, 2, 0, 0, 3);
        y.addPitch(0, 2, 2, -1);
        check.refused("power without circuit", 1, y, () -> y.book(1, 4, 3, 1, 1, 2));
        check.is("no power", 1, y.book(1, 4, 3, 0, 1, 2));
    }

    private void movedPartyFits() {
        moved("0 0 1", 1, 4, 3, 1);
        moved("0 0 1", 1, 3, 4, 1);
        moved("0 0 1", 2, 12, 3, 1);
        moved("", 0, 4, 3, 1);
        moved("", 1, 3, 3, 1);
        moved("", 1, 12, 2, 1);
        moved("", 1, 4, 3, -1);
    }

    /** The plan for a party when another one, of kind 1, 4 to 3 and with power 2, can only go to this pitch. */
    private void moved(String plan, int kind, int length, int breadth, int circuit) {
        Booker x = Sites.site(2, 8, 6, 0);
        x.book(1, 4, 3, 2, 0, 3);
        x.addPitch(kind, length, breadth, circuit);
        planned("pitch " + kind + " " + length + "x" + breadth + " " + circuit, plan, x, 0, 1, 2);
    }

    /** A party that fits on the great pitches alone has this plan, or none if another one is in its way. */
    private void planned(String what, String plan, Booker x, int power, int first, int nights) {
        if (plan.isEmpty()) {
            check.refused(what, 2, x, () -> x.book(2, 8, 6, power, first, nights));
        } else {
            check.is(what, x.account(1) + x.account(2), x.book(2, 8, 6, power, first, nights));
            check.same("plan with " + what, plan, Sites.plan(x));
        }
    }

    private void twoOnOnePitch() {
        Booker x = Sites.inTheWay();
        x.book(0, 4, 2, 0, 2, 3);
        planned("a night with another party", "", x, 0, 1, 4);
        Booker y = Sites.inTheWay();
        y.book(0, 4, 2, 0, 3, 3);
        planned("another party from the next night on", "0 0 1", y, 0, 1, 4);
        Booker z = Sites.site(0, 2, 2, 0);
        z.book(0, 2, 2, 8, 0, 3);
        z.addPitch(0, 2, 2, 0);
        z.book(0, 2, 2, 8, 0, 3);
        z.addPitch(0, 2, 2, 1);
        z.addPitch(2, 8, 6, 0);
        check.refused("two moves to one pitch", 3, z, () -> z.book(2, 8, 6, 16, 0, 3));
        z.addPitch(0, 2, 2, 1);
        planned("a pitch for each", "0 0 2, 1 1 4", z, 16, 0, 3);
    }

    private void powerOfNewParty() {
        Booker x = Sites.site(2, 8, 6, 0);
        x.book(0, 2, 2, 10, 0, 3);
        x.addPitch(0, 2, 2, 0);
        x.book(0, 2, 2, 6, 0, 3);
        x.addPitch(0, 2, 2, 1);
        planned("1 more than the limit", "", x, 11, 0, 3);
        planned("on the limit", "0 0 2", x, 10, 0, 3);
    }

    private void powerOfMovedParty() {
        for (int circuit = 0; circuit < 3; circuit++) {
            int other = (circuit + 1) % 3;
            Booker x = Sites.site(2, 8, 6, circuit);
            x.book(0, 2, 2, 9, 0, 3);
            x.addPitch(0, 2, 2, other);
            x.book(0, 2, 2, 4, 2, 2);
            x.addPitch(0, 2, 2, other);
            x.setLimit(other, 12);
            planned("1 more than the limit", "", x, 0, 0, 3);
            x.setLimit(other, 13);
            planned("on the limit", "0 0 2", x, 0, 0, 3);
        }
    }

    private void powerInSameCircuit() {
        for (int circuit = 0; circuit < 3; circuit++) {
            Booker x = Sites.site(2, 8, 6, circuit);
            x.book(0, 2, 2, 10, 0, 3);
            x.addPitch(0, 2, 2, circuit);
            planned("10 and 7", "", x, 7, 0, 3);
            planned("10 and 6", "0 0 1", x, 6, 0, 3);
            x.undo();
            x.setLimit(circuit, 9);
            planned("10 and 0, limit 9", "", x, 0, 0, 3);
            x.setLimit(circuit, 10);
            planned("10 and 0, limit 10", "0 0 1", x, 0, 0, 3);
        }
    }

    private void powerInEachNight() {
        Booker x = Sites.site(2, 8, 6, 0);
        x.setGap(0);
        x.book(0, 2, 2, 8, 0, 2);
        x.book(0, 2, 2, 8, 3, 2);
        x.addPitch(0, 2, 2, 1);
        x.setLimit(1, 7);
        planned("8 on one circuit, limit 7", "", x, 0, 1, 3);
        x.setLimit(1, 8);
        planned("8 and 8 in other nights", "0 0 1, 1 0 1", x, 0, 1, 3);
        Booker y = Sites.site(2, 8, 6, 0);
        y.book(0, 2, 2, 6, 0, 3);
        y.addPitch(0, 2, 2, 0);
        y.addPitch(0, 3, 3, 0);
        y.book(0, 3, 3, 6, 3, 2);
        check.same("places", "0 2", Sites.places(y));
        planned("11 and 6", "", y, 11, 2, 3);
        planned("10 and 6, first of one and then of the other", "0 0 1", y, 10, 2, 3);
    }

    private void powerElsewhere() {
        Booker x = Sites.site(0, 2, 2, 1, 2, 8, 6, 0);
        x.book(0, 2, 2, 10, 0, 3);
        x.setLimit(1, 5);
        check.is("too much on another circuit", 1, x.book(2, 8, 6, 16, 0, 3));
        Booker y = Sites.site(0, 2, 2, 0, 2, 8, 6, 0);
        y.book(0, 2, 2, 10, 10, 3);
        y.setLimit(0, 5);
        check.refused("too much in its last night", 3, y, () -> y.book(2, 8, 6, 0, 8, 3));
        check.refused("too much in its first night", 3, y, () -> y.book(2, 8, 6, 0, 12, 3));
        check.refused("too much for it alone", 3, y, () -> y.book(2, 8, 6, 6, 20, 3));
        check.is("too much in the next night", 1, y.book(2, 8, 6, 5, 7, 3));
        check.is("too much in the night before", 2, y.book(2, 8, 6, 5, 13, 3));
    }

    private void stayOfNewParty() {
        Booker x = Sites.inTheWay();
        x.addSeason(1, 1, 3);
        planned("2 nights", "", x, 0, 1, 2);
        planned("3 nights", "0 0 1", x, 0, 1, 3);
    }

    /** The new party fills a space on one pitch, and the other one has none. */
    private void stayOnItsPitch() {
        for (int side = 2; side <= 3; side++) {
            Booker x = Sites.site(0, side, 3, -1, 1, 5 - side, 3, -1);
            int pitch = side == 2 ? 1 : 0;
            x.book(0, 3, 3, 0, 10, 2);
            x.book(0, 3, 3, 0, 14, 2);
            x.addSeason(12, 12, 4);
            check.is("number", 2, x.book(0, 2, 2, 0, 12, 2));
            check.is("its pitch", pitch, x.party(2, 6));
            x.undo();
            check.refused("on the other pitch", 4, x, () -> x.book(1 - pitch, 3, 2, 0, 11, 2));
        }
    }

    private void gapsOfAllPitches() {
        Booker x = Sites.site(2, 8, 6, -1);
        x.book(2, 8, 6, 0, 10, 2);
        x.addPitch(0, 2, 2, -1);
        x.setGap(0);
        x.book(0, 2, 2, 0, 20, 2);
        x.book(0, 2, 2, 0, 23, 2);
        x.setGap(1);
        check.same("places", "0 1 1", Sites.places(x));
        Booker y = x.copy();
        y.cancel(2);
        check.refused("one more, and a move that takes none away", 5, y, () -> y.book(2, 8, 6, 0, 7, 2));
        planned("one more, and a move that takes one away", "1 1 0", x, 0, 7, 2);
        check.is("gaps", 1, x.account(5));
    }

    private void gapsBehindMove() {
        Booker x = Sites.site(2, 8, 6, -1);
        x.setGap(0);
        x.book(0, 2, 2, 0, 5, 2);
        x.book(2, 8, 6, 0, 8, 2);
        x.addPitch(0, 2, 2, -1);
        x.book(0, 2, 2, 0, 8, 2);
        x.setGap(1);
        planned("the move makes one, and one was there", "", x, 0, 5, 2);
        planned("the move makes one, the new party fills one", "0 0 1", x, 0, 5, 3);
        Booker y = Sites.site(2, 8, 6, -1);
        y.book(0, 2, 2, 0, 5, 2);
        y.addPitch(0, 2, 2, -1);
        planned("the moved party leaves none", "0 0 1", y, 0, 8, 2);
        check.is("gaps", 0, y.account(5));
        Booker z = Sites.site(2, 8, 6, -1);
        z.book(2, 8, 6, 0, 3, 2);
        z.book(2, 8, 6, 0, 9, 2);
        z.book(0, 2, 2, 0, 5, 4);
        z.addPitch(0, 2, 2, -1);
        planned("the moved party leaves one", "", z, 0, 5, 3);
        planned("all of its nights", "2 0 1", z, 0, 5, 4);
    }

    private void fewestMoves() {
        Booker x = Sites.site(0, 2, 2, -1);
        Sites.stay(x, 0, 3);
        x.addPitch(0, 9, 9, -1);
        x.addPitch(0, 8, 8, -1);
        Sites.stay(x, 0, 3);
        check.same("no move in spite of more waste", "0 2", Sites.places(x));
        Booker y = threeInTheWay();
        y.addPitch(2, 9, 9, -1);
        y.book(0, 8, 6, 0, 3, 1);
        y.move(3, 2);
        planned("one move in spite of more waste", "3 2 0", y, 0, 0, 4);
    }

    private void leastWaste() {
        Booker x = Sites.site(2, 9, 9, -1);
        x.book(0, 2, 2, 0, 0, 3);
        x.addPitch(2, 8, 6, -1);
        x.book(0, 2, 2, 0, 0, 3);
        x.addPitch(0, 2, 2, -1);
        planned("less waste in spite of a higher pitch and party", "1 1 2", x, 0, 0, 3);
        check.same("places", "0 2 1", Sites.places(x));
    }

    private void lowestPitch() {
        Booker x = Sites.site(2, 6, 8, -1);
        x.book(0, 2, 2, 0, 0, 3);
        x.addPitch(2, 8, 6, -1);
        x.move(0, 1);
        x.book(0, 2, 2, 0, 0, 3);
        x.addPitch(0, 2, 2, -1);
        check.same("places before", "1 0", Sites.places(x));
        planned("the lower pitch in spite of a higher party", "1 0 2", x, 0, 0, 3);
        Booker y = Sites.site(0, 8, 6, -1, 0, 6, 8, -1, 0, 12, 4, -1);
        for (int i = 0; i < 3; i++) {
            Sites.stay(y, 0, 1);
        }
        check.same("the same waste on all pitches", "0 1 2", Sites.places(y));
    }

    /** Three parties with power 5 have pitches of their own; for power 11 on pitch 3, two of them must go. */
    private static Booker threeWithPower(int kind, int length, int breadth) {
        Booker x = Sites.site(0, 2, 2, 0);
        x.book(0, 2, 2, 5, 0, 3);
        x.addPitch(kind, length, breadth, 0);
        x.book(kind, length, breadth, 5, 0, 3);
        x.addPitch(0, 2, 2, 0);
        x.book(0, 2, 2, 5, 0, 3);
        x.addPitch(2, 8, 6, 0);
        return x;
    }

    private void lowestMovedParty() {
        Booker x = threeWithPower(0, 2, 2);
        x.addPitch(0, 2, 2, 1);
        planned("one of three parties", "0 0 4", x, 6, 0, 3);
        x.undo();
        check.refused("only one pitch to go to", 3, x, () -> x.book(2, 8, 6, 7, 0, 3));
        x.setLimit(0, 17);
        planned("one of three parties again", "0 0 4", x, 7, 0, 3);
    }

    /** Party 0 to pitch 0. */
    private void lowestOfAllMoves() {
        Booker x = Sites.site(0, 4, 4, -1, 2, 8, 6, -1);
        x.book(0, 2, 2, 0, 0, 2);
        x.move(0, 1);
        planned("one move", "0 1 0", x, 0, 0, 2);
        x.undo();
        x.setGap(0);
        x.book(1, 4, 4, 0, 3, 2);
        x.addPitch(1, 4, 4, -1);
        planned("the first of two moves", "0 1 0, 1 1 2", x, 0, 0, 5);
    }

    /** On a full site, parties 9 and 10 to pitch 5. */
    private void highestOfAllMoves() {
        Booker x = Sites.site(0, 2, 2, -1, 0, 2, 2, -1, 0, 2, 2, -1, 0, 2, 2, -1, 2, 8, 6, -1);
        x.setGap(0);
        for (int i = 0; i < 9; i++) {
            Sites.stay(x, i < 4 ? 0 : 10 + 5 * i, 5);
        }
        x.book(0, 3, 3, 0, 0, 2);
        x.book(0, 3, 3, 0, 3, 2);
        x.addPitch(0, 3, 3, -1);
        check.same("places", "0 1 2 3 0 0 0 0 0 4 4", Sites.places(x));
        planned("the last of all plans", "9 4 5, 10 4 5", x, 0, 0, 5);
        x.undo();
        x.book(0, 3, 3, 0, 2, 1);
        check.is("a 12th on the last pitch", 5, x.party(11, 6));
    }

    private void lowestNewPitch() {
        Booker x = threeWithPower(0, 2, 2);
        x.addPitch(0, 9, 9, 1);
        x.addPitch(0, 2, 2, 1);
        planned("the lower pitch in spite of its size", "0 0 4", x, 6, 0, 3);
        x.undo();
        x.book(0, 9, 9, 0, 2, 1);
        planned("the lower one is taken", "0 0 5", x, 6, 0, 3);
    }

    private void secondMove() {
        Booker x = threeWithPower(0, 2, 2);
        x.addPitch(0, 2, 2, 1);
        x.addPitch(0, 2, 2, 1);
        planned("the two lowest parties", "0 0 4, 1 1 5", x, 11, 0, 3);
        Booker y = threeWithPower(1, 2, 2);
        y.addPitch(0, 2, 2, 1);
        y.addPitch(0, 2, 2, 1);
        planned("the second one is of another kind", "0 0 4, 2 2 5", y, 11, 0, 3);
        Booker z = Sites.site(0, 2, 2, 0);
        z.book(0, 2, 2, 8, 0, 3);
        z.addPitch(0, 2, 2, 0);
        z.book(0, 2, 2, 8, 0, 3);
        z.addPitch(2, 8, 6, 0);
        z.addPitch(0, 2, 2, 1);
        z.addPitch(0, 2, 2, 1);
        z.addPitch(0, 2, 2, 2);
        planned("the lowest two of three pitches", "0 0 3, 1 1 4", z, 16, 0, 3);
        Booker w = threeInTheWay();
        w.addPitch(0, 2, 2, -1);
        planned("both to the lowest pitch", "0 0 1, 1 0 1", w, 0, 0, 4);
    }

    /** If party 0 goes to pitch 5, party 1 can go to pitch 4, but if it goes to pitch 4, only party 2 has one. */
    private void newPitchBeforeSecondParty() {
        Booker x = threeWithPower(0, 4, 3);
        x.addPitch(0, 4, 4, 1);
        x.addPitch(0, 3, 3, 1);
        planned("the lower pitch in spite of a higher second party", "0 0 4, 2 2 5", x, 11, 0, 3);
    }

    /** Party 1 is in the way and goes where party 0 was. */
    private void lowerPartyFirst() {
        Booker x = Sites.site(1, 4, 4, -1);
        x.book(0, 2, 2, 0, 0, 4);
        x.addPitch(2, 8, 6, -1);
        x.book(1, 4, 4, 0, 1, 3);
        x.addPitch(0, 2, 2, -1);
        planned("the move of the lower party", "0 0 2, 1 1 0", x, 0, 0, 4);
        check.same("places", "2 0 1", Sites.places(x));
    }
}
