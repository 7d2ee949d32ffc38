import java.util.Map;
import java.util.function.Consumer;

/** The paragraph "Changes" of the document and the promises 32 to 34. */
final class ChangeSentences extends Chapter {
    ChangeSentences(Check check) {
        super(check);
    }

    @Override
    void tell(Sentences all) {
        all.in("Changes");
        all.hold("A change is a successful call of", this::changes);
        all.hold("A change is a successful call of", this::callsThatThrow);
        all.hold("A change is a successful call of", this::otherCalls);
        all.hold("The booker before each of the latest 8 changes", this::latestEight);
        all.hold("The booker before each of the latest 8 changes", this::ninth);
        all.hold("The booker before each of the latest 8 changes", this::ofAllKinds);
        all.hold("The booker before each of the latest 8 changes", this::behindUndo);
        all.hold("The booker before each of the latest 8 changes", this::restoreForgets);
        all.hold("The text buffer, the fault position, the reason", this::whatStays);
        all.hold("A successful call is a change even if", this::asItWas);
        all.in("Promise 32");
        all.hold("Undoes the latest change that is kept.", this::undo);
        all.hold("Undoes the latest change that is kept.", this::rowsBehindUndo);
        all.hold("Undoes the latest change that is kept.", this::undoOfOtherRows);
        all.hold("Returns the number of changes that can still be undone.", this::stillToUndo);
        all.hold("Throws `IllegalStateException` if no change is kept", this::nothingToUndo);
        all.in("Promise 33");
        all.hold("Saves the booker, in place of an earlier snapshot.", this::save);
        all.hold("Saves the booker, in place of an earlier snapshot.", this::saveInPlace);
        all.in("Promise 34");
        all.hold("Restores what was saved; the snapshot is kept.", this::restore);
        all.hold("Restores what was saved; the snapshot is kept.", this::rowsBehindRestore);
        all.hold("Restores what was saved; the snapshot is kept.", this::snapshotIsKept);
        all.hold("Throws `IllegalStateException` if there is no snapshot", this::noSnapshot);
    }

    /** A bit of everything, and no change that is kept. */
    private static Booker some() {
        Booker x = Sites.site(2, 8, 6, 0);
        x.book(0, 2, 2, 3, 20, 3);
        x.book(0, 2, 2, 0, 30, 3);
        x.cancel(1);
        x.addPitch(0, 4, 2, 1);
        x.addPitch(0, 2, 2, -1);
        x.addSeason(5, 9, 2);
        x.addSeason(7, 15, 3);
        x.setLimit(1, 7);
        x.setGap(2);
        x.advance(2);
        x.save();
        x.restore();
        return x;
    }

    private void isChange(String what, Consumer<Booker> call) {
        Booker x = some();
        Map<String, String> before = View.camp(x);
        call.accept(x);
        check.is("changes behind " + what, 0, x.undo());
        check.sameView("behind undo of " + what, before, View.camp(x));
        check.fails("it was one change: " + what, STATE, x, x::undo);
    }

    private void isNoChange(String what, Consumer<Booker> call) {
        Booker x = some();
        call.accept(x);
        check.fails("undo behind " + what, STATE, x, x::undo);
    }

    private void changes() {
        isChange("addPitch", x -> x.addPitch(0, 3, 3, 0));
        isChange("setLimit", x -> x.setLimit(2, 9));
        isChange("setRate", x -> x.setRate(0, 33));
        isChange("setGap", x -> x.setGap(5));
        isChange("addSeason", x -> x.addSeason(1, 2, 3));
        isChange("dropSeason", x -> x.dropSeason(0));
        isChange("book", x -> x.book(0, 2, 2, 0, 50, 3));
        isChange("book with a move", x -> x.book(2, 8, 6, 0, 20, 3));
        isChange("readBooking", x -> Sites.read(x, "t2x2@50+3"));
        isChange("move", x -> x.move(0, 1));
        isChange("cancel", x -> x.cancel(0));
        isChange("advance", x -> x.advance(1));
    }

    private void callsThatThrow() {
        isNoChange("addPitch", x -> Check.outcome(() -> x.addPitch(3, 3, 3, 0)));
        isNoChange("setLimit", x -> Check.outcome(() -> x.setLimit(2, 41)));
        isNoChange("setRate", x -> Check.outcome(() -> x.setRate(0, 100)));
        isNoChange("setGap", x -> Check.outcome(() -> x.setGap(6)));
        isNoChange("addSeason", x -> Check.outcome(() -> x.addSeason(2, 1, 3)));
        isNoChange("dropSeason", x -> Check.outcome(() -> x.dropSeason(2)));
        isNoChange("book", x -> Check.outcome(() -> x.book(0, 2, 2, 0, 50, 15)));
        isNoChange("book that is refused", x -> Check.outcome(() -> x.book(2, 9, 6, 0, 50, 3)));
        isNoChange("readBooking", x -> Check.outcome(() -> Sites.read(x, "t2x2@50+")));
        isNoChange("readBooking that is refused", x -> Check.outcome(() -> Sites.read(x, "m9x6@50+3")));
        isNoChange("move", x -> Check.outcome(() -> x.move(0, 0)));
        isNoChange("move that is refused", x -> Check.outcome(() -> x.move(0, 2)));
        isNoChange("cancel", x -> Check.outcome(() -> x.cancel(1)));
        isNoChange("advance", x -> Check.outcome(() -> x.advance(-1)));
    }

    private void otherCalls() {
        isNoChange("append", x -> x.append('t'));
        isNoChange("save", Booker::save);
        isNoChange("restore", Booker::restore);
        isNoChange("numbers", x -> {
            x.pitch(0, 0);
            x.season(0, 0);
            x.party(0, 0);
            x.account(0);
            x.share();
        });
        isNoChange("questions of nights", x -> {
            x.leastStay(5, 3);
            x.occupant(0, 20);
            x.busyNight(0, 0);
            x.firstFree(0, 20, 3);
            x.power(0, 20);
            x.peak(0);
            x.tonight();
            x.obstacle(0, 1);
        });
        isNoChange("questions of the latest booking", x -> {
            x.faultPosition();
            x.moves();
        });
    }

    private void latestEight() {
        for (int count = 0; count <= 8; count++) {
            Booker x = new Booker();
            for (int i = 0; i < count; i++) {
                x.advance(1);
            }
            for (int i = count - 1; i >= 0; i--) {
                check.is("changes left", i, x.undo());
                check.is("tonight", i, x.tonight());
            }
            check.fails("all " + count + " are undone", STATE, x, x::undo);
        }
    }

    private void ninth() {
        for (int count = 9; count <= 20; count++) {
            Booker x = new Booker();
            for (int i = 0; i < count; i++) {
                x.advance(1);
            }
            for (int i = 7; i >= 0; i--) {
                check.is("changes left of " + count, i, x.undo());
                check.is("tonight", count - 8 + i, x.tonight());
            }
            check.fails("a ninth of " + count, STATE, x, x::undo);
        }
    }

    private void ofAllKinds() {
        java.util.List<Consumer<Booker>> calls = java.util.List.of(x -> x.addPitch(2, 8, 6, 0),
                x -> x.book(0, 2, 2, 3, 20, 3), x -> x.addSeason(5, 9, 2), x -> x.setLimit(0, 20),
                x -> x.addPitch(0, 4, 2, 1), x -> Sites.read(x, "m8x6@20+3"), x -> x.setRate(1, 9),
                x -> x.setGap(4), x -> x.dropSeason(0), x -> x.advance(3), x -> x.cancel(1), x -> x.move(0, 0),
                x -> x.addSeason(1, 50, 14));
        java.util.List<Map<String, String>> states = new java.util.ArrayList<>();
        Booker x = new Booker();
        for (Consumer<Booker> call : calls) {
            states.add(View.camp(x));
            call.accept(x);
        }
        for (int i = 7; i >= 0; i--) {
            check.is("changes left", i, x.undo());
            check.sameView("behind undo", states.get(calls.size() - 8 + i), View.camp(x));
        }
        check.fails("the change before them", STATE, x, x::undo);
    }

    /** Changes older than the latest 8 stay forgotten when some of the 8 are undone. */
    private void behindUndo() {
        Booker x = new Booker();
        for (int i = 0; i < 11; i++) {
            x.advance(1);
        }
        x.undo();
        x.undo();
        x.undo();
        check.is("tonight", 8, x.tonight());
        for (int i = 0; i < 3; i++) {
            x.advance(10);
        }
        for (int i = 0; i < 3; i++) {
            check.is("a new one", 7 - i, x.undo());
            check.is("tonight", 28 - 10 * i, x.tonight());
        }
        for (int i = 4; i >= 0; i--) {
            check.is("an old one", i, x.undo());
            check.is("tonight", i + 3, x.tonight());
        }
        check.fails("one before them", STATE, x, x::undo);
        x.advance(5);
        check.is("a new one behind all", 0, x.undo());
        check.is("tonight", 3, x.tonight());
    }

    private void restoreForgets() {
        Booker x = new Booker();
        x.save();
        for (int i = 0; i < 8; i++) {
            x.advance(1);
        }
        x.restore();
        check.fails("nothing is kept", STATE, x, x::undo);
        x.advance(4);
        check.is("a new change", 0, x.undo());
        check.is("tonight", 0, x.tonight());
        check.fails("and nothing before it", STATE, x, x::undo);
    }

    /** A booking with a move, one that was refused, a text with a fault, and another such text in the buffer. */
    private static Booker latest() {
        Booker x = some();
        x.book(2, 8, 6, 0, 20, 3);
        Check.outcome(() -> x.book(2, 8, 6, 0, 20, 3));
        Check.outcome(() -> Sites.read(x, "t1x"));
        Sites.write(x, "c1x1@q");
        return x;
    }

    private void whatStays() {
        Booker x = latest();
        check.is("the booking is undone", 0, x.undo());
        check.is("its party", 2, x.account(1) + x.account(2));
        hasStayed("undo", x);
        Booker y = latest();
        y.addPitch(0, 2, 2, 0);
        y.restore();
        check.is("the party before restore", 2, y.account(1) + y.account(2));
        hasStayed("restore", y);
    }

    private void hasStayed(String what, Booker x) {
        check.same("the moves behind " + what, "0 0 1", Sites.plan(x));
        check.is("the reason behind " + what, 2, x.refusal());
        check.is("the fault position behind " + what, 3, x.faultPosition());
        Booker full = x.copy();
        Sites.write(full, "123456789012345678901234");
        check.same("the length of the text", STATE.getSimpleName(), Check.outcome(() -> full.append('5')));
        check.same("the text", "IllegalArgumentException", Check.outcome(x::readBooking));
        check.is("its fault behind " + what, 5, x.faultPosition());
    }

    private void asItWas() {
        isChange("the same limit", x -> x.setLimit(1, 7));
        isChange("the same rate", x -> x.setRate(0, 10));
        isChange("the same gap limit", x -> x.setGap(2));
        isChange("no night", x -> x.advance(0));
        Booker x = new Booker();
        x.advance(5);
        for (int i = 0; i < 8; i++) {
            x.advance(0);
        }
        for (int i = 7; i >= 0; i--) {
            check.is("changes left", i, x.undo());
            check.is("tonight", 5, x.tonight());
        }
        check.fails("the one that was more", STATE, x, x::undo);
    }

    private void undo() {
        Booker x = Sites.wide();
        x.setRate(0, 20);
        x.setRate(0, 30);
        x.undo();
        check.is("the latest one", 20, x.pitch(0, 4));
        x.setRate(0, 40);
        x.undo();
        check.is("a new one", 20, x.pitch(0, 4));
        x.undo();
        check.is("the one before", 10, x.pitch(0, 4));
        x.undo();
        check.is("the first one", 0, x.account(0));
    }

    /** Of pitches, parties and seasons that are undone nothing may be left that counts. */
    private void rowsBehindUndo() {
        Booker x = Sites.wide();
        x.addPitch(0, 2, 2, 0);
        x.setRate(1, 20);
        x.undo();
        x.undo();
        x.book(1, 3, 3, 5, 10, 2);
        x.cancel(0);
        x.undo();
        x.undo();
        x.addSeason(10, 20, 9);
        x.undo();
        check.same("accounts", "1 0 0 0 0 0 0 0", Check.list(0, 7, x::account));
        check.is("arrivals", 0, x.copy().advance(20));
        check.is("power", 0, x.power(0, 10));
        check.is("who", -1, x.occupant(0, 10));
        check.is("nights", 0, x.pitch(0, 5));
        check.is("least stay", 1, x.leastStay(10, 2));
        check.is("a new pitch", 1, x.addPitch(1, 4, 5, -1));
        check.same("its numbers", "1 4 5 -1 10 0 0", Check.list(0, 6, what -> x.pitch(1, what)));
        check.is("a new party", 0, x.book(0, 1, 2, 0, 10, 1));
        check.same("its numbers", "0 1 2 0 10 1 1 10 1 0", Sites.party(x, 0));
    }

    private void stillToUndo() {
        Booker x = new Booker();
        for (int i = 0; i < 30; i++) {
            x.advance(1);
            Booker y = x.copy();
            check.is("behind " + (i + 1) + " changes", Math.min(i, 7), y.undo());
        }
    }

    private void nothingToUndo() {
        Booker x = new Booker();
        check.fails("a new object", STATE, x, x::undo);
        x.addPitch(0, 2, 2, -1);
        x.undo();
        check.fails("all undone", STATE, x, x::undo);
        check.fails("and again", STATE, x, x::undo);
        x.addPitch(0, 2, 2, -1);
        x.save();
        x.restore();
        check.fails("restored", STATE, x, x::undo);
    }

    private void save() {
        Booker x = some();
        x.advance(1);
        Map<String, String> before = View.of(x, View.SNAPSHOT);
        x.save();
        check.sameView("behind save", before, View.of(x, View.SNAPSHOT));
        check.is("changes are kept", 0, x.undo());
        x.restore();
        check.is("what was saved", 3, x.tonight());
    }

    private void saveInPlace() {
        Booker x = Sites.site(0, 2, 2, -1);
        x.save();
        x.addPitch(1, 3, 3, 0);
        x.save();
        x.addPitch(2, 4, 4, 1);
        x.restore();
        check.is("the later one", 2, x.account(0));
        x.save();
        x.restore();
        check.is("saved behind restore", 2, x.account(0));
    }

    /** All changes are undone and others made, so that every row holds other numbers when restore is called. */
    private void restore() {
        Booker x = new Booker();
        x.addPitch(1, 5, 4, 2);
        x.setRate(0, 66);
        x.addSeason(3, 9, 2);
        x.setLimit(1, 22);
        x.setGap(3);
        x.book(1, 3, 2, 7, 20, 5);
        x.cancel(0);
        x.advance(4);
        Map<String, String> saved = View.camp(x);
        x.save();
        for (int i = 0; i < 8; i++) {
            x.undo();
        }
        check.same("nothing left", "0 0 0 0 0 0 0 0", Check.list(0, 7, x::account));
        x.addPitch(2, 9, 8, -1);
        x.addSeason(1, 2, 13);
        x.setLimit(1, 33);
        x.setGap(4);
        x.book(2, 1, 8, 0, 5, 1);
        x.book(0, 9, 1, 0, 16, 2);
        x.advance(9);
        x.restore();
        check.sameView("behind restore", saved, View.camp(x));
    }

    /** The same with undo: the rows of what is undone are used again, and undone again. */
    private void undoOfOtherRows() {
        Booker x = new Booker();
        x.addPitch(1, 5, 4, 2);
        x.addSeason(3, 9, 2);
        x.book(1, 3, 2, 7, 20, 5);
        x.cancel(0);
        Map<String, String> before = View.camp(x);
        x.save();
        x.undo();
        x.undo();
        x.undo();
        x.undo();
        x.addPitch(2, 9, 8, -1);
        x.addSeason(1, 2, 13);
        x.book(2, 1, 8, 0, 5, 1);
        Map<String, String> then = View.camp(x);
        x.setRate(0, 30);
        x.dropSeason(0);
        x.book(0, 9, 1, 0, 16, 2);
        x.undo();
        x.undo();
        x.undo();
        check.sameView("behind undo", then, View.camp(x));
        x.restore();
        check.sameView("behind restore", before, View.camp(x));
    }

    /** Party 2 is booked behind save: restore must leave nobody who could be moved for a new party. */
    private void rowsBehindRestore() {
        Booker x = Sites.site(0, 2, 2, -1, 2, 8, 6, -1);
        x.setGap(0);
        Sites.stay(x, 5, 1);
        x.move(0, 1);
        x.book(2, 8, 6, 0, 0, 3);
        x.save();
        x.cancel(1);
        Sites.stay(x, 0, 3);
        x.move(2, 1);
        x.restore();
        check.refused("with no move", 2, x, () -> x.book(2, 8, 6, 0, 0, 3));
        check.refused("with one move", 2, x, () -> x.book(2, 8, 6, 0, 0, 6));
        check.same("parties", "1 1 IndexOutOfBoundsException", Check.list(0, 2, party -> x.party(party, 8)));
        check.same("who", "1 1 1 -1 -1 0", Check.list(0, 5, night -> x.occupant(1, night)));
        check.is("arrivals", 2, x.advance(60));
    }

    private void snapshotIsKept() {
        Booker x = some();
        Map<String, String> saved = View.camp(x);
        for (int i = 0; i < 3; i++) {
            x.book(2, 8, 6, 0, 20, 3);
            x.cancel(0);
            x.setLimit(0, 3);
            x.dropSeason(0);
            x.advance(3);
            x.undo();
            x.restore();
            check.sameView("behind restore " + i, saved, View.camp(x));
        }
    }

    private void noSnapshot() {
        Booker x = Sites.wide();
        Sites.stay(x, 3, 2);
        x.advance(1);
        check.fails("never saved", STATE, x, x::restore);
        check.fails("and again", STATE, x, x::restore);
        check.is("the changes are kept", 2, x.undo());
        x.save();
        x.undo();
        x.restore();
        check.is("saved", 1, x.account(1));
    }
}
