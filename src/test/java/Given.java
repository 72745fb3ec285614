/** What tests begin with. */
final class Given {
    private Given() {
    }

    /** An office with so many people, of hands 0, 1, 2, 3, 0, .. */
    static CardUnsigned office(int people) {
        CardUnsigned x = new CardUnsigned();
        for (int i = 0; i < people; i++) {
            x.person(i % 4);
        }
        return x;
    }

    static void row(CardUnsigned x, int shelf, int sort, int... v) {
        x.row(shelf, sort, v.length);
        for (int i = 0; i < v.length; i++) {
            x.put(shelf, i, v[i]);
        }
    }

    /** What law() answers of a text. */
    static int law(CardUnsigned x, String text) {
        for (int i = 0; i < text.length(); i++) {
            x.feed(text.charAt(i));
        }
        return x.law();
    }
}
