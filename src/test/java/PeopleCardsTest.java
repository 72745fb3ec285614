/** Promises 1 to 7: a new object, people, cards, what they are mended to, the tape. */
public final class PeopleCardsTest {
    private static final Check check = new Check();
    private static final int VOID = CardUnsigned.VOID;

    public static void main(String[] args) {
        newObject();
        persons();
        peopleFromRows();
        cards();
        mends();
        reads();
        feeds();
        check.end();
    }

    private static void newObject() {
        CardUnsigned x = new CardUnsigned();
        for (int what = 0; what <= 5; what++) {
            check.due(1, "count(" + what + ")", x.count(what), 0);
        }
        for (int what = 0; what <= 4; what++) {
            check.due(1, "led(" + what + ")", x.led(what), 0);
        }
        check.due(1, "of(0, 10)", x.of(0, 10), 2);
        check.due(1, "of(0, 11)", x.of(0, 11), 10);
        check.due(1, "of(0, 12)", x.of(0, 12), 10);
        check.due(1, "back()", x.back(), -5);
        check.due(1, "undo()", x.undo(), -5);
        check.due(1, "redo()", x.redo(), -5);
        check.due(1, "trace(0)", x.trace(0), -1);
        for (int shelf = 0; shelf <= 5; shelf++) {
            check.due(1, "put on a new shelf", x.put(shelf, 0, 1), -11);
        }
        check.due(1, "allByOne(0)", x.allByOne(0), 0);
    }

    private static void persons() {
        CardUnsigned x = new CardUnsigned();
        check.due(2, "person(-1)", x.person(-1), -1);
        check.due(2, "person(4)", x.person(4), -1);
        check.due(2, "person(MIN)", x.person(Integer.MIN_VALUE), -1);
        for (int i = 0; i < 8; i++) {
            check.due(2, "person", x.person(i % 4), i);
            int[] first = {0, 99, i % 4, 0, 0, 0};
            for (int what = 0; what < 6; what++) {
                check.due(2, "of a new one " + what, x.of(i, what), first[what]);
            }
        }
        check.due(2, "person(0), the ninth", x.person(0), -3);
        check.due(2, "person(4), the ninth", x.person(4), -1);
        check.due(2, "count(0)", x.count(0), 8);
    }

    private static void peopleFromRows() {
        CardUnsigned x = new CardUnsigned();
        check.due(3, "people, nothing there", x.people(0, 0, 1), 0);
        check.due(3, "people, no such shelf", x.people(6, 0, 1), -1);
        check.due(3, "people, no such shelf", x.people(-1, 0, 1), -1);
        check.due(3, "people, n 0", x.people(0, 0, 0), -1);
        check.due(3, "people, n 9", x.people(0, 0, 9), -1);
        check.due(3, "people, nothing there, any place", x.people(0, -1, 1), 0);
        check.due(3, "people, nothing there, any place", x.people(5, Integer.MIN_VALUE, 8), 0);
        check.due(3, "people, nothing there, any place", x.people(5, Integer.MAX_VALUE, 8), 0);
        check.due(3, "people, nothing there, n 9", x.people(0, -1, 9), -1);
        check.due(3, "people, no such shelf, any place", x.people(6, -1, 1), -1);
        x.row(0, 0, 9);
        check.due(3, "people, bytes", x.people(0, 0, 1), -12);
        check.due(3, "people, bytes, any place", x.people(0, -1, 1), -12);
        x.keep(0, -1);
        check.due(3, "people, nothing there any more", x.people(0, -1, 1), 0);
        x.body(0);
        x.keep(0, 0);
        check.due(3, "people, a look", x.people(0, 0, 1), -12);
        check.due(3, "people, a look, any place", x.people(0, -1, 1), -12);
        check.due(3, "people, a look, n 0", x.people(0, 0, 0), -1);
        Given.row(x, 1, 1, 3, 255, 255, 0, 0, 0, 1, 2);
        check.due(3, "people, ends within a three", x.people(1, 0, 8), 2);
        check.due(3, "hand", x.of(0, 2), 3);
        check.due(3, "likes", x.of(0, 4), 255);
        check.due(3, "knows", x.of(0, 5), 255);
        check.due(3, "till", x.of(1, 1), 99);
        check.due(3, "people, from 3 on", x.people(1, 3, 8), 1);
        check.due(3, "people, from 1 on: 255 is no hand", x.people(1, 1, 8), 0);
        check.due(3, "people, from 6 on", x.people(1, 6, 8), 0);
        check.due(3, "people, from 8 on", x.people(1, 8, 8), 0);
        check.due(3, "people, far behind the end", x.people(1, Integer.MAX_VALUE, 8), 0);
        check.due(3, "people, ahead of the row", x.people(1, -1, 8), 0);
        check.due(3, "people, a three ahead of the row", x.people(1, -3, 8), 0);
        check.due(3, "people, far ahead of the row", x.people(1, Integer.MIN_VALUE, 8), 0);
        check.due(3, "people, ahead of the row, n 0", x.people(1, -1, 0), -1);
        check.due(3, "count(0)", x.count(0), 3);
        check.due(3, "people, one of two", x.people(1, 0, 1), 1);
        Given.row(x, 2, 1, 1, 2, 3, 1, 256, 0, 1, 1, 1);
        check.due(3, "people, likes 256", x.people(2, 0, 3), 1);
        Given.row(x, 2, 1, 1, 2, 3, 1, 0, -1);
        check.due(3, "people, knows -1", x.people(2, 0, 3), 1);
        Given.row(x, 2, 1, 1, 2, 3, -1, 0, 0);
        check.due(3, "people, hand -1", x.people(2, 0, 3), 1);
        check.due(3, "count(0)", x.count(0), 7);
        Given.row(x, 2, 1, 0, 1, 2, 1, 2, 3);
        check.due(3, "people till they are full", x.people(2, 0, 2), 1);
        check.due(3, "people, full", x.people(2, 0, 2), 0);
        check.due(3, "count(3)", x.count(3), 0);
    }

    private static void cards() {
        CardUnsigned x = new CardUnsigned();
        check.due(4, "card to nobody", x.card(0, 0), -1);
        x.person(0);
        x.person(1);
        check.due(4, "card(-1, 0)", x.card(-1, 0), -1);
        check.due(4, "card(200, 0)", x.card(200, 0), -1);
        check.due(4, "card(MAX, 0)", x.card(Integer.MAX_VALUE, 0), -1);
        check.due(4, "card(0, -1)", x.card(0, -1), -1);
        check.due(4, "card(0, 2)", x.card(0, 2), -1);
        check.due(4, "card(0, 50)", x.card(0, 50), -1);
        check.due(4, "card(0, 900)", x.card(0, 900), -1);
        check.due(4, "card(0, MAX)", x.card(0, Integer.MAX_VALUE), -1);
        check.due(4, "card(199, 841)", x.card(199, 841), 0);
        int[] numbers = {99, 3, 7, 1};
        for (int what = 6; what <= 9; what++) {
            check.due(4, "of(0, " + what + ")", x.of(0, what), numbers[what - 6]);
        }
        check.due(4, "of(0, 13)", x.of(0, 13), 1);
        check.due(4, "card(7, 0)", x.card(7, 0), 1);
        check.due(4, "of(1, 7)", x.of(1, 7), -1);
        check.due(4, "of(1, 8)", x.of(1, 8), -1);
        check.due(4, "of(1, 14)", x.of(1, 14), -2);
        check.due(4, "of(1, 15)", x.of(1, 15), -2);
        for (int i = 2; i < 6; i++) {
            check.due(4, "card(0, 0)", x.card(0, 0), i);
        }
        check.due(4, "card(0, 0), the seventh", x.card(0, 0), -3);
        check.due(4, "card(0, 2), the seventh", x.card(0, 2), -1);
        check.due(4, "count(1)", x.count(1), 6);
    }

    private static void mends() {
        int[] least = {0, 0, 0, 0, 0, 0, 0, -1, -1, 0, 0, 0, 0};
        int[] most = {99, 99, 3, 9, 255, 255, 99, 3, 7, 1, 12, 99, 99};
        int[] first = {0, 99, 1, 0, 0, 0, 50, 2, 4, 1, 2, 10, 10};
        CardUnsigned x = new CardUnsigned();
        x.person(1);
        x.card(50, 531);
        for (int what = 0; what <= 12; what++) {
            check.due(5, "below, " + what, x.mend(0, what, least[what] - 1), VOID);
            check.due(5, "above, " + what, x.mend(0, what, most[what] + 1), VOID);
            check.due(5, "number 1, " + what, x.mend(1, what, least[what]), VOID);
            check.due(5, "number -1, " + what, x.mend(-1, what, least[what]), VOID);
            check.due(5, "nothing came of it, " + what, x.of(0, what), first[what]);
            check.due(5, "to most, " + what, x.mend(0, what, most[what]), first[what]);
            check.due(5, "to least, " + what, x.mend(0, what, least[what]), most[what]);
            check.due(5, "as it is, " + what, x.mend(0, what, least[what]), least[what]);
            check.due(5, "of, " + what, x.of(0, what), least[what]);
        }
        check.due(5, "what -1", x.mend(0, -1, 0), VOID);
        for (int what = 13; what <= 16; what++) {
            check.due(5, "what " + what, x.mend(0, what, 0), VOID);
        }
        check.due(5, "what MAX", x.mend(0, Integer.MAX_VALUE, 0), VOID);
    }

    private static void reads() {
        CardUnsigned x = new CardUnsigned();
        for (int what = 0; what <= 15; what++) {
            boolean general = what >= 10 && what <= 12;
            check.holds(6, "of(0, " + what + ") of nobody", (x.of(0, what) == VOID) != general);
            check.due(6, "of(1, " + what + ")", x.of(1, what), VOID);
        }
        check.due(6, "of(0, -1)", x.of(0, -1), VOID);
        check.due(6, "of(0, 16)", x.of(0, 16), VOID);
        check.due(6, "of(MIN, 0)", x.of(Integer.MIN_VALUE, 0), VOID);
        x.person(0);
        x.person(1);
        x.send(10, 0);
        x.card(100, 0);
        check.due(6, "of(0, 13)", x.of(0, 13), 0);
        check.due(6, "of(0, 14)", x.of(0, 14), 1);
        check.due(6, "of(0, 15)", x.of(0, 15), -2);
        x.thanked(0);
        check.due(6, "of(0, 15)", x.of(0, 15), 0);
        check.due(6, "of(1, 13)", x.of(1, 13), 1);
        check.due(6, "of(1, 14)", x.of(1, 14), -2);
        check.due(6, "of(2, 13)", x.of(2, 13), VOID);
    }

    private static void feeds() {
        CardUnsigned x = new CardUnsigned();
        check.due(7, "feed(-1)", x.feed(-1), -1);
        check.due(7, "feed(256)", x.feed(256), -1);
        for (int i = 1; i <= 120; i++) {
            check.due(7, "feed", x.feed(i % 2 == 0 ? 255 : 0), i);
        }
        check.due(7, "feed(49), the 121st", x.feed(49), -3);
        check.due(7, "feed(256), the 121st", x.feed(256), -1);
        check.due(7, "count(2)", x.count(2), 120);
    }
}
