/** What tests begin with, and what they compare. */
final class Given {
    private Given() {
    }

    /** An office with so many people, of hands 0, 1, 2, 3, 0, .. */
    static CardUnsigned office(int people) {
        CardUnsigned x = new CardUnsigned();
        for (int i = 0; i < people; i++) {
            x.person(i % 4);
        }
        return x;
    }

    /** Eight people of hand 1, six cards to the first at minute 50: all that there can be. */
    static CardUnsigned fullOffice() {
        CardUnsigned x = new CardUnsigned();
        for (int i = 0; i < 8; i++) {
            x.person(1);
        }
        for (int i = 0; i < 6; i++) {
            x.card(50, 0);
        }
        return x;
    }

    static void row(CardUnsigned x, int shelf, int sort, int... v) {
        x.row(shelf, sort, v.length);
        for (int i = 0; i < v.length; i++) {
            x.put(shelf, i, v[i]);
        }
    }

    static void feed(CardUnsigned x, String text) {
        for (int i = 0; i < text.length(); i++) {
            x.feed(text.charAt(i));
        }
    }

    /** What law() answers of a text. */
    static int law(CardUnsigned x, String text) {
        feed(x, text);
        return x.law();
    }

    /** All that can be read without changing anything, as one number. */
    static long state(CardUnsigned x) {
        long state = 17;
        for (int what = 0; what <= 5; what++) {
            state = state * 31 + x.count(what) * 7 + x.led(what);
        }
        for (int number = 0; number < 8; number++) {
            for (int what = 0; what <= 15; what++) {
                state = state * 31 + x.of(number, what);
            }
        }
        for (int shelf = 0; shelf < 6; shelf++) {
            state = state * 31 + x.taken(shelf, 0);
            for (int i = 0; i < 60; i++) {
                state = state * 31 + x.element(shelf, i);
            }
        }
        for (int card = 0; card < x.count(1); card++) {
            for (int one = 0; one < x.count(0); one++) {
                state = state * 31 + x.counts(10 * card + one);
            }
        }
        for (int i = 0; i < 24; i++) {
            state = state * 31 + x.trace(i);
        }
        return state;
    }
}
