/** Promises 12 to 14: the text buffer, texts of bookings and their faults. */
public final class TextTest {
    private static final Class<IllegalArgumentException> ARGUMENT = IllegalArgumentException.class;
    private static final Class<IllegalStateException> STATE = IllegalStateException.class;
    private static final Class<UnsupportedOperationException> REFUSED = UnsupportedOperationException.class;

    private static final Check check = new Check();

    public static void main(String[] args) {
        append();
        goodTexts();
        faults();
        everyPrefixAndSign();
        refusedNumbers();
        faultPosition();
        check.end();
    }

    private static CampsiteBooker site() {
        CampsiteBooker x = new CampsiteBooker();
        x.addPitch(2, 12, 12, 0);
        return x;
    }

    private static void write(CampsiteBooker x, String text) {
        for (char c : text.toCharArray()) {
            x.append(c);
        }
    }

    private static void append() {
        check.theme("promise 12");
        CampsiteBooker x = site();
        write(x, "t3x4@1+2p1");
        for (int i = 10; i < 30; i++) {
            x.append(i % 2 == 0 ? (char) 0 : (char) 65535);
        }
        check.fails("a 31st", STATE, x, () -> x.append('t'));
        check.fails("a 31st again", STATE, x, () -> x.append('t'));
        check.fails("the text", ARGUMENT, () -> x.readBooking());
        check.is("its fault", 10, x.faultPosition());
        write(x, "t3x4@1+2p1");
        check.is("behind it the buffer is empty", 0, x.readBooking());
        check.fails("and again", ARGUMENT, () -> x.readBooking());
        check.is("an empty text", 0, x.faultPosition());
    }

    private static void goodTexts() {
        check.theme("promise 13, good texts");
        good("t3x4@12+3", "0 3 4 0 12 3");
        good("c9x9@20+14p16", "1 9 9 16 20 14");
        good("m12x10@0+1p0", "2 12 10 0 0 1");
        good("m1x1@59+1p1", "2 1 1 1 59 1");
        good("t10x11@46+14p10", "0 10 11 10 46 14");
    }

    private static void good(String text, String numbers) {
        CampsiteBooker x = site();
        write(x, text);
        check.is(text, 0, x.readBooking());
        check.same("numbers of " + text, numbers, Check.list(0, 5, what -> x.party(0, what)));
        check.is("fault of " + text, -1, x.faultPosition());
        check.is("changes of " + text, 1, x.undo());
    }

    private static void faults() {
        check.theme("promise 14, faults");
        String[] texts = {"", "T", "x", "t", "tt", "t0", "t03", "t00", "t123", "t3", "t3X", "t3x", "t3xx", "t3x4",
            "t3x4+", "t3x4@", "t3x4@+", "t3x4@05", "t3x4@123", "t3x4@1", "t3x4@1-", "t3x4@1+", "t3x4@1+p",
            "t3x4@1+02", "t3x4@1+123", "t3x4@1+2p", "t3x4@1+2P", "t3x4@1+2pp", "t3x4@1+2p00", "t3x4@1+2p01",
            "t3x4@1+2p123", "t3x4@1+2p1x", "t3x4@1+2 ", " t3x4@1+2", "t-3x4@1+2", "t3x4@1+2t", "t12x12@12+12p12p",
            "t3x4@1+2p1" + (char) 0, "t" + (char) 0x663 + "x4@1+2"};
        int[] faults = {0, 0, 0, 1, 1, 2, 2, 2, 3, 2, 2, 3, 3, 4,
            4, 5, 5, 6, 7, 6, 6, 7, 7,
            8, 9, 9, 8, 9, 10, 10,
            11, 10, 8, 0, 1, 8, 15,
            10, 1};
        check.is("as many faults as texts", texts.length, faults.length);
        CampsiteBooker x = site();
        for (int i = 0; i < texts.length; i++) {
            write(x, texts[i]);
            check.fails(texts[i], ARGUMENT, () -> x.readBooking());
            check.is("fault of " + texts[i], faults[i], x.faultPosition());
        }
        check.is("no parties", 0, x.account(1));
        check.is("no change", 0, x.undo());
    }

    /** A text that is cut has its fault at its length, one with a wrong sign at that sign. */
    private static void everyPrefixAndSign() {
        check.theme("promise 14, cut texts");
        String text = "m10x10@10+10p10";
        for (int cut = 0; cut < text.length(); cut++) {
            CampsiteBooker x = site();
            write(x, text.substring(0, cut) + '!' + text.substring(cut + 1));
            check.fails("wrong sign at " + cut, ARGUMENT, () -> x.readBooking());
            check.is("fault at " + cut, cut, x.faultPosition());
            write(x, text.substring(0, cut));
            if (cut == 11 || cut == 12 || cut == 14) {
                check.is("a shorter text", 0, x.readBooking());
                check.is("its fault", -1, x.faultPosition());
            } else {
                check.fails("cut at " + cut, ARGUMENT, () -> x.readBooking());
                check.is("fault behind " + cut, cut, x.faultPosition());
            }
        }
    }

    private static void refusedNumbers() {
        check.theme("promise 13, wrong numbers");
        CampsiteBooker x = site();
        String[] texts = {"t0x1@1+1", "t1x0@1+1", "t13x1@1+1", "t1x13@1+1", "t1x1@60+1", "t1x1@59+2", "t1x1@1+0",
            "t1x1@1+15", "t1x1@1+1p17", "t99x99@99+99p99", "t1x1@2+1"};
        x.advance(3);
        for (String text : texts) {
            write(x, text);
            check.fails(text, ARGUMENT, x, () -> x.readBooking());
            check.is("no fault of " + text, -1, x.faultPosition());
        }
        write(x, "t1x1@3+1");
        check.is("tonight", 0, x.readBooking());
        write(x, "t1x1@3+1");
        check.fails("refused", REFUSED, () -> x.readBooking());
        check.is("its reason", 2, x.refusal());
        check.is("its fault", -1, x.faultPosition());
        for (int i = 1; i < 12; i++) {
            write(x, "t1x1@" + (3 + i) + "+1");
            check.is("party", i, x.readBooking());
        }
        write(x, "t1x1@30+1");
        check.fails("a 13th", STATE, x, () -> x.readBooking());
        check.is("the fault of a 13th", -1, x.faultPosition());
        write(x, "t1x1@0+1");
        check.fails("a wrong 13th", ARGUMENT, x, () -> x.readBooking());
        check.fails("the buffer is empty", ARGUMENT, () -> x.readBooking());
        check.is("its fault", 0, x.faultPosition());
    }

    private static void faultPosition() {
        check.theme("promise 14");
        CampsiteBooker x = site();
        check.is("at first", -1, x.faultPosition());
        write(x, "tz");
        check.is("before it is read", -1, x.faultPosition());
        check.fails("read", ARGUMENT, () -> x.readBooking());
        check.is("behind it", 1, x.faultPosition());
        x.book(0, 1, 1, 0, 0, 1);
        check.fails("book", ARGUMENT, x, () -> x.book(0, 0, 1, 0, 0, 1));
        x.append('t');
        check.is("book and append change nothing", 1, x.faultPosition());
        x.undo();
        check.is("nor does undo", 1, x.faultPosition());
        write(x, "1x1@4+1");
        x.readBooking();
        check.is("a good one", -1, x.faultPosition());
    }
}
