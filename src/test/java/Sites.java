/** What several tests begin with, and short ways to write calls and answers. */
final class Sites {
    private Sites() {
    }

    /** Pitches by their kinds, lengths, breadths and circuits. */
    static Booker site(int... numbers) {
        Booker x = new Booker();
        for (int i = 0; i + 3 < numbers.length; i += 4) {
            x.addPitch(numbers[i], numbers[i + 1], numbers[i + 2], numbers[i + 3]);
        }
        return x;
    }

    /** One pitch for any party. */
    static Booker wide() {
        return site(2, 12, 12, 0);
    }

    /** One pitch for any party without power, and no gaps. */
    static Booker plain() {
        Booker x = site(2, 12, 12, -1);
        x.setGap(0);
        return x;
    }

    /** Party 0 is where any other one of the greatest kind must go; it can go to pitch 1. */
    static Booker inTheWay() {
        Booker x = Sites.site(2, 8, 6, 0);
        x.book(0, 2, 2, 0, 0, 3);
        x.addPitch(0, 4, 2, -1);
        return x;
    }

    /** A small party without power. */
    static int stay(Booker x, int first, int nights) {
        return x.book(0, 1, 1, 0, first, nights);
    }

    static void write(Booker x, String text) {
        for (char c : text.toCharArray()) {
            x.append(c);
        }
    }

    static int read(Booker x, String text) {
        write(x, text);
        return x.readBooking();
    }

    /** Party, old and new pitch of each move of the latest booking. */
    static String plan(Booker x) {
        StringBuilder all = new StringBuilder();
        for (int i = 0; i < x.moves(); i++) {
            int move = i;
            all.append(i == 0 ? "" : ", ").append(Check.list(0, 2, part -> x.moveOf(move, part)));
        }
        return all.toString();
    }

    /** The pitch of each party. */
    static String places(Booker x) {
        return Check.list(0, x.account(1) + x.account(2) - 1, party -> x.party(party, 6));
    }

    static String party(Booker x, int party) {
        return Check.list(0, 9, what -> x.party(party, what));
    }
}
