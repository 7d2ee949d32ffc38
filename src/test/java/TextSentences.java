/** The paragraph "Texts" of the document and the promises 12 to 14. */
final class TextSentences extends Chapter {
    TextSentences(Check check) {
        super(check);
    }

    @Override
    void tell(Sentences all) {
        all.in("Texts");
        all.hold("A text of a booking is", this::goodTexts);
        all.hold("A text of a booking is", this::everySign);
        all.hold("A text of a booking is", this::powerIsLast);
        all.hold("These are numbers of 1 or 2 digits", this::digits);
        all.hold("The fault position of a text is", this::faults);
        all.hold("The fault position of a text is", this::endsTooEarly);
        all.in("Promise 12");
        all.hold("Appends a character to the text buffer.", this::append);
        all.hold("`c`: the character, any one", this::anyCharacter);
        all.hold("Throws `IllegalStateException` if the buffer contains 30", this::fullBuffer);
        all.in("Promise 13");
        all.hold("Reads the text buffer as a text of a booking", this::booksAsBook);
        all.hold("The buffer is emptied, also if", this::emptied);
        all.hold("Returns the number of the party.", this::number);
        all.hold("Throws `IllegalArgumentException` if the text has a fault", this::faultsThrow);
        all.hold("Throws `IllegalArgumentException` if the text has a fault", this::wrongNumbers);
        all.hold("Throws `IllegalStateException` if 12 parties were booked", this::thirteenth);
        all.hold("Throws `UnsupportedOperationException` if it is refused", this::refused);
        all.in("Promise 14");
        all.hold("Returns the fault position of the text of the latest call", this::latestCall);
        all.hold("Returns the fault position, or -1 if", this::noFault);
    }

    /** A text that has no fault; its numbers may be out of range. */
    private void isGood(String text) {
        Booker x = Sites.wide();
        Check.outcome(() -> Sites.read(x, text));
        check.is("fault of " + text, -1, x.faultPosition());
    }

    private void hasFault(int due, String text) {
        Booker x = Sites.wide();
        Sites.write(x, text);
        check.fails(text, ARGUMENT, x, () -> x.readBooking(), View.TEXT, View.FAULT);
        check.is("fault of " + text, due, x.faultPosition());
    }

    private void goodTexts() {
        said("t3x4@12+5", "0 3 4 0 12 5 0 50 1 0");
        said("c9x8@0+1p7", "1 9 8 7 0 1 0 17 1 0");
        said("m12x10@46+14p16", "2 12 10 16 46 14 0 364 1 0");
        said("t1x1@59+1p0", "0 1 1 0 59 1 0 10 1 0");
    }

    private void said(String text, String party) {
        Booker x = Sites.wide();
        check.is(text, 0, Sites.read(x, text));
        check.same("party of " + text, party, Sites.party(x, 0));
        check.is("fault of " + text, -1, x.faultPosition());
    }

    /** A wrong sign at each place of a text. */
    private void everySign() {
        String text = "m10x11@12+13p14";
        for (int at = 0; at < text.length(); at++) {
            for (char wrong : new char[] {'!', 'T', 'X', ' ', '-', (char) 0, (char) 255, (char) 0x661}) {
                hasFault(at, text.substring(0, at) + wrong + text.substring(at + 1));
            }
        }
        for (char sign : "tcmx@+p".toCharArray()) {
            for (int at = 0; at < text.length(); at++) {
                boolean isDue = text.charAt(at) == sign || at == 0 && "tcm".indexOf(sign) >= 0;
                if (!isDue && !canStandAt(sign, at)) {
                    hasFault(at, text.substring(0, at) + sign + text.substring(at + 1));
                }
            }
        }
    }

    /** Behind one digit, the sign that is due behind two of them is right, too. */
    private static boolean canStandAt(char sign, int at) {
        return sign == 'x' && at == 2 || sign == '@' && at == 5 || sign == '+' && at == 8 || sign == 'p' && at == 11;
    }

    private void powerIsLast() {
        isGood("t1x1@1+1");
        isGood("t1x1@1+1p1");
        hasFault(8, "t1x1@1+1x1");
        hasFault(10, "t1x1@1+1p1p1");
        hasFault(6, "t1x1@1p1+1");
        hasFault(4, "t1x1+1@1");
        hasFault(0, "1x1@1+1");
        hasFault(1, "tt1x1@1+1");
        hasFault(8, "t1x1@1+1 ");
        hasFault(0, " t1x1@1+1");
    }

    /** Each of the five numbers of a text. */
    private void digits() {
        String[] ahead = {"t", "t1x", "t1x1@", "t1x1@1+", "t1x1@1+1p"};
        String[] behind = {"x1@1+1p1", "@1+1p1", "+1p1", "p1", ""};
        for (int i = 0; i < ahead.length; i++) {
            int at = ahead[i].length();
            for (String number : new String[] {"0", "1", "9", "10", "90", "99"}) {
                isGood(ahead[i] + number + behind[i]);
            }
            hasFault(at + 1, ahead[i] + "00" + behind[i]);
            hasFault(at + 1, ahead[i] + "01" + behind[i]);
            hasFault(at + 1, ahead[i] + "09" + behind[i]);
            hasFault(at + 2, ahead[i] + "100" + behind[i]);
            hasFault(at + 2, ahead[i] + "999" + behind[i]);
            hasFault(at, ahead[i] + behind[i] + (behind[i].isEmpty() ? "p" : ""));
            hasFault(at, ahead[i] + "-1" + behind[i]);
            hasFault(at, ahead[i] + "+1" + behind[i]);
            hasFault(at, ahead[i] + (char) ('0' - 1) + behind[i]);
            hasFault(at, ahead[i] + (char) ('9' + 1) + behind[i]);
            hasFault(at + 1, ahead[i] + "1" + (char) ('0' - 1) + behind[i]);
            hasFault(at + 1, ahead[i] + "1" + (char) ('9' + 1) + behind[i]);
        }
    }

    private void faults() {
        hasFault(0, "x");
        hasFault(0, "T3x4@1+2");
        hasFault(0, "q3x!@");
        hasFault(2, "t3q4@1+2");
        hasFault(3, "t123x4@1+2");
        hasFault(4, "t3x4x1+2");
        hasFault(6, "t3x4@1p2");
        hasFault(8, "t3x4@1+2q1");
        hasFault(10, "t3x4@1+2p1p");
        hasFault(3, "t3x!!!");
        hasFault(15, "m12x12@12+12p12" + "111111111111111");
    }

    private void endsTooEarly() {
        hasFault(0, "");
        hasFault(9, "t1x1@1+1p");
        String text = "m10x11@12+13p14";
        for (int length = 0; length < text.length(); length++) {
            if (length == 11 || length == 12 || length == 14) {
                isGood(text.substring(0, length));
            } else {
                hasFault(length, text.substring(0, length));
            }
        }
    }

    private void append() {
        Booker x = Sites.wide();
        Sites.write(x, "c12x3@");
        Sites.write(x, "45+6");
        x.append('p');
        x.append('7');
        check.is("in the order of the calls", 0, x.readBooking());
        check.same("party", "1 12 3 7 45 6 0 102 1 0", Sites.party(x, 0));
        check.is("a new text behind it", 1, Sites.read(x, "t1x2@3+4"));
        check.same("party", "0 1 2 0 3 4 0 40 1 0", Sites.party(x, 1));
    }

    private void anyCharacter() {
        Booker x = Sites.wide();
        char[] some = {0, '\n', ' ', 127, 128, 255, 256, 0xD800, 0xDFFF, 0xFFFE, 0xFFFF};
        for (char c : some) {
            x.append(c);
        }
        check.fails("the text", ARGUMENT, x, () -> x.readBooking(), View.TEXT, View.FAULT);
        for (char c : some) {
            hasFault(8, "t1x1@1+1" + c);
        }
        check.is("the next text", 0, Sites.read(x, "t1x1@1+1"));
    }

    private void fullBuffer() {
        Booker x = Sites.wide();
        Sites.write(x, "m12x12@12+12p12");
        for (int i = 15; i < 30; i++) {
            check.same("character " + i, "", Check.outcome(() -> x.append('7')));
        }
        check.fails("a 31st", STATE, x, () -> x.append('7'));
        check.fails("a 31st, another one", STATE, x, () -> x.append((char) 0));
        check.fails("the text", ARGUMENT, x, () -> x.readBooking(), View.TEXT, View.FAULT);
        check.is("its fault", 15, x.faultPosition());
        for (int i = 0; i < 30; i++) {
            check.same("character " + i + " of the next text", "", Check.outcome(() -> x.append('t')));
        }
        check.fails("a 31st of the next text", STATE, x, () -> x.append('t'));
    }

    private void booksAsBook() {
        Booker x = Sites.site(2, 8, 6, 0);
        x.book(0, 2, 2, 0, 0, 3);
        x.addPitch(0, 2, 2, 1);
        Booker y = x.copy();
        check.is("one", 1, Sites.read(x, "m6x8@1+2p16"));
        check.is("the other", 1, y.book(2, 6, 8, 16, 1, 2));
        check.same("plan", "0 0 1", Sites.plan(x));
        check.sameView("behind both", View.of(y), View.of(x));
    }

    /** What is appended behind a call of readBooking is a text of its own. */
    private void emptied() {
        Booker x = Sites.wide();
        check.is("a good text", 0, Sites.read(x, "t1x1@1+1"));
        isEmpty("behind a good text", x);
        check.same("a fault", "IllegalArgumentException", Check.outcome(() -> Sites.read(x, "t1x1@")));
        isEmpty("behind a fault", x);
        check.same("a wrong number", "IllegalArgumentException", Check.outcome(() -> Sites.read(x, "t0x1@1+1")));
        isEmpty("behind a wrong number", x);
        check.same("a refusal", "UnsupportedOperationException", Check.outcome(() -> Sites.read(x, "t1x1@1+1")));
        isEmpty("behind a refusal", x);
        for (int i = 1; i < 12; i++) {
            Sites.stay(x, 3 * i + 1, 3);
        }
        check.same("a 13th", "IllegalStateException", Check.outcome(() -> Sites.read(x, "t1x1@50+1")));
        isEmpty("behind a 13th", x);
    }

    private void isEmpty(String what, Booker x) {
        Booker copy = x.copy();
        check.same(what, "IllegalArgumentException", Check.outcome(copy::readBooking));
        check.is("its fault " + what, 0, copy.faultPosition());
        Booker full = x.copy();
        Sites.write(full, "123456789012345678901234567890");
        check.same("a 31st character " + what, "IllegalStateException", Check.outcome(() -> full.append('1')));
    }

    private void number() {
        Booker x = Sites.wide();
        for (int i = 0; i < 12; i++) {
            check.is("number", i, i % 2 == 0 ? Sites.read(x, "t1x1@" + 2 * i + "+2") : Sites.stay(x, 2 * i, 2));
        }
    }

    private void faultsThrow() {
        Booker x = Sites.wide();
        Sites.stay(x, 5, 1);
        for (String text : new String[] {"", "t", "t1x1@5+1p", "t1x1@5+1!", "t01x1@5+1"}) {
            Sites.write(x, text);
            check.fails("text " + text, ARGUMENT, x, () -> x.readBooking(), View.TEXT, View.FAULT);
        }
        check.is("no party but the first", 1, x.account(1) + x.account(2));
    }

    private void wrongNumbers() {
        Booker x = Sites.wide();
        x.advance(3);
        String[] texts = {"t0x1@5+1", "t13x1@5+1", "t1x0@5+1", "t1x13@5+1", "t1x1@5+1p17", "t1x1@60+1", "t1x1@2+2",
            "t1x1@5+0", "t1x1@5+15", "t1x1@59+2", "t1x1@47+14", "t99x99@99+99p99", "t0x0@0+0p0"};
        for (String text : texts) {
            check.same("a fault", "IllegalArgumentException", Check.outcome(() -> Sites.read(x, "t")));
            Sites.write(x, text);
            check.fails("text " + text, ARGUMENT, x, () -> x.readBooking(), View.TEXT, View.FAULT);
            check.is("no fault of " + text, -1, x.faultPosition());
        }
        check.is("the last ones that are right", 0, Sites.read(x, "m12x12@46+14p16"));
        check.is("the first ones that are right", 1, Sites.read(x, "t1x1@3+1p0"));
    }

    private void thirteenth() {
        Booker x = Sites.wide();
        for (int i = 0; i < 12; i++) {
            Sites.stay(x, 3 * i, 3);
        }
        Sites.write(x, "t1x1@50+1");
        check.fails("a 13th", STATE, x, () -> x.readBooking(), View.TEXT);
        check.is("it has no fault", -1, x.faultPosition());
        Sites.write(x, "t1x1@0+1");
        check.fails("a 13th that has no room", STATE, x, () -> x.readBooking(), View.TEXT);
        Sites.write(x, "t1x1@50+0");
        check.fails("a 13th with a wrong number", ARGUMENT, x, () -> x.readBooking(), View.TEXT);
        Sites.write(x, "t1x1@50+");
        check.fails("a 13th with a fault", ARGUMENT, x, () -> x.readBooking(), View.TEXT, View.FAULT);
        check.is("its fault", 8, x.faultPosition());
    }

    private void refused() {
        Booker x = Sites.wide();
        x.book(0, 1, 1, 10, 5, 3);
        Sites.write(x, "t1x1@7+1");
        check.refusedText("taken", 2, x);
        Sites.write(x, "t12x12@8+1p16");
        x.setLimit(0, 15);
        check.refusedText("too much power", 3, x);
        check.is("it has no fault", -1, x.faultPosition());
    }

    private void latestCall() {
        Booker x = Sites.wide();
        Sites.write(x, "tz");
        check.is("before the first call", -1, x.faultPosition());
        check.same("the first call", "IllegalArgumentException", Check.outcome(x::readBooking));
        check.is("the first fault", 1, x.faultPosition());
        Sites.write(x, "t1");
        check.is("before the second call", 1, x.faultPosition());
        Sites.stay(x, 0, 1);
        check.is("book is another method", 1, x.faultPosition());
        x.undo();
        check.is("behind undo", 1, x.faultPosition());
        check.same("the second call", "IllegalArgumentException", Check.outcome(x::readBooking));
        check.is("the second fault", 2, x.faultPosition());
        check.is("the third call", 0, Sites.read(x, "t1x1@1+1"));
        check.is("no fault", -1, x.faultPosition());
    }

    private void noFault() {
        Booker x = Sites.wide();
        check.is("not called", -1, x.faultPosition());
        check.same("empty", "IllegalArgumentException", Check.outcome(x::readBooking));
        check.is("the least fault position", 0, x.faultPosition());
        Sites.read(x, "t1x1@1+1");
        check.is("a good text", -1, x.faultPosition());
    }
}
