/** The paragraphs of the document from "Seasons" to "Obstacles". */
final class RuleSentences extends Chapter {
    RuleSentences(Check check) {
        super(check);
    }

    @Override
    void tell(Sentences all) {
        all.in("Seasons");
        all.hold("At most 4 seasons are kept", this::seasons);
        all.hold("At most 4 seasons are kept", this::seasonNumbers);
        all.hold("A stay is too short on a pitch if", this::oneOfItsNights);
        all.hold("A stay is too short on a pitch if", this::greaterThanItsNights);
        all.hold("A stay is too short on a pitch if", this::severalSeasons);
        all.hold("A stay is too short on a pitch if", this::unlessItFills);
        all.hold("A stay is too short on a pitch if", this::otherPartiesOnThisPitch);
        all.in("Gaps");
        all.hold("A gap of a pitch is a longest row", this::rows);
        all.hold("A gap of a pitch is a longest row", this::betweenTwoNights);
        all.hold("A gap of a pitch is a longest row", this::onOnePitch);
        all.hold("The gap limit is from 0 to 5, at first 1.", this::gapLimit);
        all.in("Obstacles");
        all.hold("The obstacle of a party on a pitch is the first", this::firstThatApplies);
        all.hold("The obstacle of a party on a pitch is the first", this::doesNotFit);
        all.hold("The obstacle of a party on a pitch is the first", this::anotherParty);
        all.hold("The obstacle of a party on a pitch is the first", this::moreThanTheLimit);
        all.hold("The obstacle of a party on a pitch is the first", this::powersTogether);
        all.hold("The obstacle of a party on a pitch is the first", this::moreGaps);
        all.hold("There may be none.", this::none);
    }

    private void seasons() {
        Booker x = new Booker();
        check.fails("no season 0", INDEX, x, () -> x.season(0, 0));
        for (int i = 0; i < 4; i++) {
            check.is("number", i, x.addSeason(10 * i, 10 * i + 5, i + 2));
        }
        check.same("firsts", "0 10 20 30 IndexOutOfBoundsException", Check.list(0, 4, season -> x.season(season, 0)));
        check.fails("a fifth", STATE, x, () -> x.addSeason(0, 59, 1));
        x.dropSeason(0);
        check.is("room for one more", 3, x.addSeason(59, 59, 14));
        check.fails("and no more", STATE, x, () -> x.addSeason(0, 59, 1));
    }

    private void seasonNumbers() {
        for (int stay = 1; stay <= 14; stay++) {
            Booker x = new Booker();
            x.addSeason(stay, 60 - stay, stay);
            check.same("season", stay + " " + (60 - stay) + " " + stay, Check.list(0, 2, what -> x.season(0, what)));
        }
        Booker x = new Booker();
        check.refuses("first", ARGUMENT, 0, 59, x, (y, n) -> y.addSeason(n, 59, 5));
        check.refuses("last", ARGUMENT, 0, 59, x, (y, n) -> y.addSeason(0, n, 5));
        check.refuses("stay", ARGUMENT, 1, 14, x, (y, n) -> y.addSeason(0, 59, n));
        check.is("first and last the same", 0, x.addSeason(30, 30, 5));
        check.fails("last before first", ARGUMENT, x, () -> x.addSeason(30, 29, 5));
    }

    /** Whether a stay on the empty pitch is refused as too short. */
    private void isShort(String due, Booker x, int first, int nights) {
        Booker copy = x.copy();
        boolean isBooked = Check.outcome(() -> Sites.stay(copy, first, nights)).isEmpty();
        String got = isBooked ? "long enough" : copy.refusal() == 4 ? "too short" : "refused for another reason";
        check.same(nights + " nights from " + first, due, got);
    }

    private void oneOfItsNights() {
        Booker x = Sites.plain();
        x.addSeason(10, 20, 3);
        isShort("long enough", x, 8, 2);
        isShort("too short", x, 9, 2);
        isShort("too short", x, 10, 1);
        isShort("too short", x, 15, 2);
        isShort("too short", x, 20, 2);
        isShort("long enough", x, 21, 1);
        x.addSeason(30, 30, 6);
        isShort("too short", x, 26, 5);
        isShort("too short", x, 28, 5);
        isShort("too short", x, 30, 5);
        isShort("long enough", x, 25, 5);
        isShort("long enough", x, 31, 5);
        x.addSeason(0, 0, 2);
        x.addSeason(59, 59, 2);
        isShort("too short", x, 0, 1);
        isShort("long enough", x, 1, 1);
        isShort("long enough", x, 58, 1);
        isShort("too short", x, 59, 1);
    }

    private void greaterThanItsNights() {
        for (int stay = 1; stay <= 14; stay++) {
            Booker x = Sites.plain();
            x.addSeason(20, 20, stay);
            isShort("long enough", x, 20, stay);
            if (stay > 1) {
                isShort("too short", x, 20, stay - 1);
                isShort("too short", x, 22 - stay, stay - 1);
            }
        }
    }

    private void severalSeasons() {
        Booker x = Sites.plain();
        x.addSeason(10, 20, 3);
        x.addSeason(18, 30, 5);
        x.addSeason(19, 19, 2);
        isShort("long enough", x, 15, 3);
        isShort("too short", x, 16, 3);
        isShort("too short", x, 17, 4);
        isShort("long enough", x, 17, 5);
        x.dropSeason(1);
        isShort("long enough", x, 17, 4);
        isShort("too short", x, 19, 2);
    }

    private void unlessItFills() {
        Booker x = Sites.plain();
        Sites.stay(x, 10, 2);
        Sites.stay(x, 14, 1);
        Sites.stay(x, 16, 2);
        Sites.stay(x, 22, 3);
        x.addSeason(0, 59, 9);
        isShort("long enough", x, 12, 2);
        isShort("too short", x, 12, 1);
        isShort("too short", x, 13, 1);
        isShort("long enough", x, 15, 1);
        isShort("long enough", x, 18, 4);
        isShort("too short", x, 18, 3);
        isShort("too short", x, 19, 3);
        isShort("too short", x, 8, 2);
        isShort("too short", x, 25, 2);
    }

    private void otherPartiesOnThisPitch() {
        Booker x = Sites.site(0, 2, 2, -1, 0, 3, 3, -1);
        Sites.stay(x, 10, 2);
        Sites.stay(x, 12, 2);
        Sites.stay(x, 14, 2);
        x.addSeason(0, 59, 3);
        check.same("two others beside it", "0 4", Check.list(0, 1, pitch -> x.obstacle(1, pitch)));
        x.move(2, 1);
        check.same("one on each pitch", "4 4", Check.list(0, 1, pitch -> x.obstacle(1, pitch)));
        x.move(0, 1);
        check.same("both on the other pitch", "4 0", Check.list(0, 1, pitch -> x.obstacle(1, pitch)));
        x.cancel(2);
        check.same("one is cancelled", "4 4", Check.list(0, 1, pitch -> x.obstacle(1, pitch)));
        x.undo();
        x.advance(20);
        check.same("all are over", "4 0", Check.list(0, 1, pitch -> x.obstacle(1, pitch)));
    }

    /** Rows of 1 to 6 nights without a party. */
    private void rows() {
        Booker x = Sites.plain();
        for (int first : new int[] {3, 5, 8, 12, 17, 23, 30}) {
            Sites.stay(x, first, 1);
        }
        String[] firsts = {"none", "4 none", "4 6 none", "4 6 9 none", "4 6 9 13 none", "4 6 9 13 18 none"};
        String[] lasts = {"none", "4 none", "4 7 none", "4 7 11 none", "4 7 11 16 none", "4 7 11 16 22 none"};
        for (int limit = 0; limit <= 5; limit++) {
            x.setGap(limit);
            int count = limit;
            check.same("first nights", firsts[limit], Check.list(0, count, gap -> x.gap(0, gap, false)));
            check.same("last nights", lasts[limit], Check.list(0, count, gap -> x.gap(0, gap, true)));
            check.is("number", limit, x.pitch(0, 6));
            check.is("of all pitches", limit, x.account(5));
        }
    }

    private void betweenTwoNights() {
        Booker x = Sites.plain();
        x.setGap(5);
        check.is("no party", 0, x.pitch(0, 6));
        Sites.stay(x, 1, 2);
        check.is("night 0 ahead of all", 0, x.pitch(0, 6));
        Sites.stay(x, 3, 2);
        check.is("no night between", 0, x.pitch(0, 6));
        Sites.stay(x, 58, 1);
        check.is("night 59 behind all", 0, x.pitch(0, 6));
        x.setGap(0);
        Sites.stay(x, 56, 1);
        x.setGap(5);
        check.same("one night between", "57 none", Check.list(0, 1, gap -> x.gap(0, gap, false)));
        x.undo();
        x.undo();
        x.undo();
        Sites.stay(x, 59, 1);
        Sites.stay(x, 0, 1);
        check.is("up to nights 0 and 59", 0, x.account(5));
    }

    private void onOnePitch() {
        Booker x = Sites.site(0, 2, 2, -1, 0, 2, 2, -1);
        x.setGap(0);
        Sites.stay(x, 5, 1);
        Sites.stay(x, 7, 1);
        x.setGap(1);
        check.same("on one", "1 0 1", x.pitch(0, 6) + " " + x.pitch(1, 6) + " " + x.account(5));
        x.move(1, 1);
        check.same("on two", "0 0 0", x.pitch(0, 6) + " " + x.pitch(1, 6) + " " + x.account(5));
        x.move(0, 1);
        check.same("on the other", "0 1 1", x.pitch(0, 6) + " " + x.pitch(1, 6) + " " + x.account(5));
    }

    private void gapLimit() {
        Booker x = new Booker();
        check.is("at first", 1, x.setGap(0));
        for (int limit = 0; limit <= 5; limit++) {
            check.is("the one before", Math.max(limit - 1, 0), x.setGap(limit));
        }
        check.refuses("limit", ARGUMENT, 0, 5, x, (y, n) -> y.setGap(n));
        check.is("the last one", 5, x.setGap(1));
    }

    /** Party 0 asks for pitch 0, where each of the five obstacles applies or not. */
    private static Booker obstacles(boolean kind, boolean taken, boolean power, boolean stay, boolean gap) {
        Booker x = Sites.site(2, 2, 2, 1);
        x.setGap(0);
        x.book(kind ? 1 : 0, 1, 1, 5, 20, 2);
        x.addPitch(0, 4, 4, 0);
        if (taken) {
            x.book(0, 4, 4, 0, 21, 1);
        }
        if (gap) {
            x.book(0, 4, 4, 0, 23, 1);
        }
        x.setGap(1);
        if (power) {
            x.setLimit(0, 4);
        }
        if (stay) {
            x.addSeason(20, 20, 3);
        }
        return x;
    }

    private void firstThatApplies() {
        for (int way = 0; way < 32; way++) {
            boolean[] applies = new boolean[5];
            int first = 0;
            for (int i = 4; i >= 0; i--) {
                applies[i] = (way >> i & 1) != 0;
                first = applies[i] ? i + 1 : first;
            }
            Booker x = obstacles(applies[0], applies[1], applies[2], applies[3], applies[4]);
            check.is("obstacles " + java.util.Arrays.toString(applies), first, x.obstacle(0, 1));
        }
    }

    private void doesNotFit() {
        Booker x = Sites.site(1, 5, 4, 0, 0, 5, 4, 0, 1, 4, 4, 0, 1, 5, 3, 0, 1, 5, 4, -1, 2, 4, 5, 2);
        x.book(1, 5, 4, 1, 20, 2);
        check.same("on each pitch", "0 1 1 1 1 0", Check.list(0, 5, pitch -> x.obstacle(0, pitch)));
    }

    private void anotherParty() {
        Booker x = Sites.site(0, 2, 2, -1, 0, 3, 3, -1);
        Sites.stay(x, 20, 3);
        x.move(0, 1);
        int[][] stays = {{18, 2}, {23, 2}, {18, 3}, {22, 2}, {21, 1}, {19, 5}, {20, 3}};
        int[] due = {0, 0, 2, 2, 2, 2, 2};
        for (int i = 0; i < stays.length; i++) {
            Booker y = x.copy();
            Sites.stay(y, stays[i][0], stays[i][1]);
            check.is("with " + stays[i][1] + " nights from " + stays[i][0], due[i], y.obstacle(0, 0));
            check.is("on the other pitch", 0, y.obstacle(0, 1));
            y.cancel(1);
            check.is("behind cancel", 0, y.obstacle(0, 0));
        }
    }

    private void moreThanTheLimit() {
        Booker x = Sites.site(0, 2, 2, 0, 0, 3, 3, 1, 0, 4, 4, 1);
        x.book(0, 1, 1, 7, 20, 3);
        x.book(0, 3, 3, 6, 22, 3);
        x.setLimit(1, 13);
        check.is("on the limit", 0, x.obstacle(0, 2));
        x.setLimit(1, 12);
        check.is("1 more than the limit", 3, x.obstacle(0, 2));
        x.setLimit(0, 7);
        check.is("alone on the limit", 0, x.obstacle(0, 0));
        x.setLimit(0, 6);
        check.is("alone 1 more than the limit", 3, x.obstacle(0, 0));
        x.cancel(1);
        check.is("without the cancelled one", 0, x.obstacle(0, 2));
    }

    private void powersTogether() {
        Booker x = Sites.site(0, 2, 2, 0, 0, 3, 3, 0, 0, 4, 4, 0, 0, 5, 5, 1);
        x.setGap(0);
        x.book(0, 2, 2, 3, 20, 2);
        x.book(0, 3, 3, 5, 19, 2);
        x.book(0, 5, 5, 16, 18, 5);
        x.book(0, 3, 3, 9, 22, 1);
        x.book(0, 3, 3, 9, 18, 1);
        x.book(0, 2, 2, 8, 19, 2);
        check.same("places", "0 1 3 1 1 2", Sites.places(x));
        check.is("three in night 20", 0, x.obstacle(0, 0));
        x.setLimit(0, 15);
        check.is("1 more in night 20", 3, x.obstacle(0, 0));
        x.cancel(5);
        x.setLimit(0, 8);
        check.is("nights beside it, and another circuit, do not count", 0, x.obstacle(0, 0));
        x.setLimit(0, 7);
        check.is("its first night", 3, x.obstacle(0, 0));
        x.cancel(1);
        x.setLimit(0, 8);
        x.book(0, 3, 3, 5, 21, 1);
        x.setLimit(0, 7);
        check.is("its last night", 3, x.obstacle(0, 0));
    }

    private void moreGaps() {
        Booker x = Sites.site(0, 2, 2, -1, 0, 3, 3, -1);
        Sites.stay(x, 20, 2);
        x.book(0, 3, 3, 0, 24, 2);
        x.book(0, 3, 3, 0, 16, 2);
        x.setGap(2);
        check.is("two more", 5, x.obstacle(0, 1));
        x.setGap(1);
        check.is("rows above the limit", 0, x.obstacle(0, 1));
        x.setGap(5);
        check.is("rows of 2 and 2", 5, x.obstacle(0, 1));
        x.cancel(2);
        check.is("one more", 5, x.obstacle(0, 1));
        x.setGap(0);
        x.book(0, 3, 3, 0, 18, 2);
        check.is("none at all", 0, x.obstacle(0, 1));
        x.setGap(4);
        check.is("one for one", 0, x.obstacle(0, 1));
        x.setGap(2);
        check.is("one for a row above the limit", 5, x.obstacle(0, 1));
        x.cancel(1);
        x.setGap(0);
        x.book(0, 3, 3, 0, 22, 2);
        x.setGap(2);
        check.is("one less", 0, x.obstacle(0, 1));
    }

    private void none() {
        Booker x = obstacles(false, false, false, false, false);
        check.same("on no pitch", "0 0", Check.list(0, 1, pitch -> x.obstacle(0, pitch)));
        check.is("it can be moved", 0, x.move(0, 1));
    }
}
