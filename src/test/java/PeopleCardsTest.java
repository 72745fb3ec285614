/** Promises 1 to 7: a new object, people, cards, what they are mended to, the tape. */
public final class PeopleCardsTest {
    private static final Sentences doc = new Sentences();
    private static final int VOID = Sentences.VOID;

    public static void main(String[] args) {
        newObject();
        person();
        personFull();
        peopleAndCardsAsTheyCome();
        numbersOfPeople();
        numbersOfCards();
        numbersOfAll();
        people();
        peopleByThrees();
        peopleRefused();
        peopleMissing();
        peopleAtTheEnd();
        peopleNotSo();
        peopleFull();
        card();
        cardFull();
        cardAsNumbers();
        mend();
        mendRefused();
        of();
        ofAsOfMend();
        ofRefused();
        feed();
        doc.end(1, 7);
    }

    private static void newObject() {
        doc.sentence(1, "An office, nobody in it.");
        CardUnsigned x = new CardUnsigned();
        for (int what = 0; what <= 5; what++) {
            doc.due(x, "count(" + what + ")", 0);
        }
        for (int what = 0; what <= 4; what++) {
            doc.due(x, "led(" + what + ")", 0);
        }
        for (int what = 0; what <= 9; what++) {
            doc.due(x, "of(0, " + what + ")", VOID);
        }
        for (int shelf = 0; shelf <= 5; shelf++) {
            doc.due(x, "put(" + shelf + ", 0, 1)", -11);
        }
        doc.due(x, "could(0)", -1);
        doc.due(x, "allByOne(0)", 0);
        doc.due(x, "evenings(0, 9)", 0);
        doc.due(x, "trace(0)", -1);
        doc.due(x, "back()", -5);
        doc.due(x, "undo()", -5);
        doc.due(x, "redo()", -5);
    }

    private static void person() {
        doc.sentence(2, "One of PEOPLE: its number.");
        CardUnsigned x = new CardUnsigned();
        for (int i = 0; i < 8; i++) {
            doc.due(x, "person(" + i % 4 + ")", i);
            doc.due(x, "count(0)", i + 1);
            int[] first = {0, 99, i % 4, 0, 0, 0};
            for (int what = 0; what < 6; what++) {
                doc.due(x, "of(" + i + ", " + what + ")", first[what]);
            }
        }
    }

    private static void personFull() {
        doc.sentence(2, "BAD, FULL: 8.");
        CardUnsigned x = new CardUnsigned();
        refusedHands(x);
        for (int i = 0; i < 8; i++) {
            doc.due(x, "person(3)", i);
        }
        doc.refused(x, "person(0)", -3);
        doc.refused(x, "person(3)", -3);
        refusedHands(x);
    }

    private static void peopleAndCardsAsTheyCome() {
        CardUnsigned x = new CardUnsigned();
        doc.sentence(0, "PEOPLE 0 .. 7, as they come");
        for (int i = 0; i <= 7; i++) {
            doc.due(x, "person(2)", i);
        }
        doc.due(x, "person(2)", -3);
        doc.due(x, "of(7, 2)", 2);
        doc.due(x, "of(8, 2)", VOID);
        doc.sentence(0, "CARDS 0 .. 5, as they come: TO (one of PEOPLE)");
        for (int i = 0; i <= 5; i++) {
            doc.due(x, "card(" + 100 * (i + 2) + ", 0)", i);
            doc.due(x, "of(" + i + ", 13)", i + 2);
        }
        doc.due(x, "card(0, 0)", -3);
        doc.due(x, "of(6, 13)", VOID);
    }

    private static void refusedHands(CardUnsigned x) {
        doc.refusedEach(x, "person(#)", -1, "-1", "4", "256", "MIN", "MAX");
    }

    private static void numbersOfPeople() {
        range("FROM, TILL (0 .. 99 minutes; 0, 99 at first: in the office, both, too)", 0, 0, 0, 99);
        range("FROM, TILL (0 .. 99 minutes; 0, 99 at first: in the office, both, too)", 1, 99, 0, 99);
        range("HAND (0 .. 3)", 2, 1, 0, 3);
        range("SHY (0 .. 9; 0 at first)", 3, 0, 0, 9);
        range("LIKES (bits 0 .. 255 of PEOPLE; none at first)", 4, 0, 0, 255);
        range("KNOWS (bits 0 .. 255: SECRETS 0 .. 7; none at first)", 5, 0, 0, 255);
    }

    private static void numbersOfCards() {
        range("AT (0 .. 99)", 6, 50, 0, 99);
        range("SHOWN (-1 .. 3: a HAND; -1: none)", 7, -1, -1, 3);
        range("SECRET (-1 .. 7; -1: none)", 8, -1, -1, 7);
        range("STAMP (0, 1)", 9, 0, 0, 1);
    }

    private static void numbersOfAll() {
        range("FEIGNS (0 .. 12 of twelve; 2 at first)", 10, 2, 0, 12);
        range("GAIN, LOSS (0 .. 99; 10, 10 at first)", 11, 10, 0, 99);
        range("GAIN, LOSS (0 .. 99; 10, 10 at first)", 12, 10, 0, 99);
    }

    /** A number of the first and of the last that has one: what it is at first, its least, its most, and beyond. */
    private static void range(String words, int what, int first, int least, int most) {
        doc.sentence(0, words);
        CardUnsigned x = Given.fullOffice();
        int last = what <= 5 ? 7 : what <= 9 ? 5 : 0;
        for (int number = 0; number <= last; number += Math.max(1, last)) {
            String mend = "mend(" + number + ", " + what + ", ";
            doc.due(x, "of(" + number + ", " + what + ")", first);
            doc.refused(x, mend + (least - 1) + ")", VOID);
            doc.refused(x, mend + (most + 1) + ")", VOID);
            doc.refused(x, mend + "MIN)", VOID);
            doc.refused(x, mend + "MAX)", VOID);
            doc.due(x, mend + most + ")", first);
            doc.due(x, mend + least + ")", most);
            doc.due(x, "of(" + number + ", " + what + ")", least);
        }
    }

    private static void people() {
        doc.sentence(3, "PEOPLE FROM A ROW on a SHELF, from place i on, n (1 .. 8) of them: how many came.");
        CardUnsigned x = Given.office(1);
        Given.row(x, 5, 1, 9, 3, 255, 128, 0, 0, 0, 1, 2, 3);
        doc.due(x, "people(5, 1, 2)", 2);
        int[][] due = {{0, 99, 3, 0, 255, 128}, {0, 99, 0, 0, 0, 0}};
        for (int one = 1; one <= 2; one++) {
            for (int what = 0; what < 6; what++) {
                doc.due(x, "of(" + one + ", " + what + ")", due[one - 1][what]);
            }
        }
        doc.due(x, "people(5, 7, 1)", 1);
        doc.due(x, "of(3, 5)", 3);
        doc.due(x, "count(0)", 4);
        doc.due(x, "count(3)", 0);
    }

    private static void peopleByThrees() {
        doc.sentence(0, "PEOPLE FROM A ROW of shorts, from a place on: by threes HAND, LIKES, KNOWS: n of them");
        int[] row = new int[24];
        for (int i = 0; i < 24; i++) {
            row[i] = i % 3 == 0 ? i / 3 % 4 : 10 * i + i % 3;
        }
        for (int n = 1; n <= 8; n++) {
            CardUnsigned x = new CardUnsigned();
            Given.row(x, 0, 1, row);
            doc.due(x, "people(0, 0, " + n + ")", n);
            doc.due(x, "count(0)", n);
            for (int one = 0; one < n; one++) {
                doc.due(x, "of(" + one + ", 2)", row[3 * one]);
                doc.due(x, "of(" + one + ", 4)", row[3 * one + 1]);
                doc.due(x, "of(" + one + ", 5)", row[3 * one + 2]);
            }
        }
    }

    private static void peopleRefused() {
        doc.sentence(3, "BAD, -12 (no ROW of shorts; a SHELF that holds nothing is missing).");
        CardUnsigned x = new CardUnsigned();
        x.body(0);
        x.keep(1, 0);
        for (int sort = 0; sort < 5; sort++) {
            x.row(0, sort, 9);
            if (sort != 1) {
                doc.refused(x, "people(0, 0, 1)", -12);
                doc.refused(x, "people(0, -1, 8)", -12);
                doc.refused(x, "people(0, 9, 1)", -12);
            }
        }
        doc.refused(x, "people(1, 0, 1)", -12);
        doc.refused(x, "people(1, -1, 1)", -12);
        x.row(0, 1, 9);
        for (int shelf = 0; shelf <= 2; shelf++) {
            for (String n : new String[] {"0", "9", "-1", "MIN", "MAX"}) {
                doc.refused(x, "people(" + shelf + ", 0, " + n + ")", -1);
                doc.refused(x, "people(" + shelf + ", -1, " + n + ")", -1);
            }
        }
        doc.refusedEach(x, "people(#, 0, 1)", -1, "-1", "6", "MIN", "MAX");
        doc.due(x, "people(0, 0, 8)", 3);
    }

    private static void peopleMissing() {
        doc.sentence(0, "it ends where the row is missing");
        CardUnsigned x = new CardUnsigned();
        for (int shelf = 0; shelf <= 5; shelf++) {
            for (String i : new String[] {"0", "-1", "60", "MIN", "MAX"}) {
                doc.refused(x, "people(" + shelf + ", " + i + ", 1)", 0);
                doc.refused(x, "people(" + shelf + ", " + i + ", 8)", 0);
            }
        }
        x.row(0, 1, 9);
        x.keep(0, -1);
        doc.refused(x, "people(0, 0, 3)", 0);
    }

    private static void peopleAtTheEnd() {
        doc.sentence(0, "ends (within a three, too)");
        CardUnsigned x = new CardUnsigned();
        for (int n = 0; n <= 9; n++) {
            x.row(0, 1, n);
            doc.due(x, "people(0, " + n + ", 1)", 0);
            doc.due(x, "people(0, 0, 1)", n < 3 ? 0 : 1);
            x = new CardUnsigned();
            x.row(0, 1, n);
            doc.due(x, "people(0, 0, 8)", n / 3);
            x = new CardUnsigned();
        }
        x.row(0, 1, 60);
        doc.due(x, "people(0, 57, 8)", 1);
        doc.refusedEach(x, "people(0, #, 8)", 0, "58", "59", "60", "61", "MAX", "-1", "-3", "MIN");
    }

    private static void peopleNotSo() {
        doc.sentence(0, "one is not so");
        int[][] threes = {{-1, 0, 0}, {4, 0, 0}, {0, -1, 0}, {0, 256, 0}, {0, 0, -1}, {0, 0, 256}};
        for (int[] three : threes) {
            CardUnsigned x = new CardUnsigned();
            Given.row(x, 0, 1, 3, 255, 255, three[0], three[1], three[2], 1, 1, 1);
            doc.due(x, "people(0, 0, 3)", 1);
            doc.refused(x, "people(0, 3, 3)", 0);
            doc.due(x, "people(0, 6, 3)", 1);
            doc.due(x, "count(0)", 2);
        }
    }

    private static void peopleFull() {
        doc.sentence(0, "or PEOPLE are FULL: those ahead came");
        CardUnsigned x = Given.office(6);
        Given.row(x, 0, 1, 1, 0, 0, 2, 0, 0, 3, 0, 0);
        doc.due(x, "people(0, 0, 3)", 2);
        doc.due(x, "of(7, 2)", 2);
        doc.refused(x, "people(0, 6, 1)", 0);
        doc.refused(x, "people(0, 0, 8)", 0);
        doc.due(x, "count(0)", 8);
        CardUnsigned y = new CardUnsigned();
        y.row(0, 1, 27);
        doc.due(y, "people(0, 0, 8)", 8);
        doc.due(y, "people(0, 24, 1)", 0);
    }

    private static void card() {
        doc.sentence(4, "A CARD: its number.");
        CardUnsigned x = Given.office(2);
        doc.due(x, "card(199, 841)", 0);
        int[] due = {99, 3, 7, 1};
        for (int what = 6; what <= 9; what++) {
            doc.due(x, "of(0, " + what + ")", due[what - 6]);
        }
        doc.due(x, "of(0, 13)", 1);
        doc.due(x, "card(7, 0)", 1);
        int[] dueToo = {7, -1, -1, 0};
        for (int what = 6; what <= 9; what++) {
            doc.due(x, "of(1, " + what + ")", dueToo[what - 6]);
        }
        doc.due(x, "of(1, 13)", 0);
        doc.due(x, "of(1, 14)", -2);
        doc.due(x, "of(1, 15)", -2);
        doc.due(x, "count(1)", 2);
        doc.due(x, "led(0)", 0);
    }

    private static void cardFull() {
        doc.sentence(4, "BAD, FULL: 6.");
        CardUnsigned x = new CardUnsigned();
        doc.refused(x, "card(0, 0)", -1);
        x.person(0);
        for (int i = 0; i < 6; i++) {
            doc.due(x, "card(0, 0)", i);
        }
        doc.refused(x, "card(0, 0)", -3);
        doc.refused(x, "card(99, 841)", -3);
        doc.refused(x, "card(0, 2)", -1);
        doc.refused(x, "card(100, 0)", -1);
        doc.due(x, "count(1)", 6);
    }

    private static void cardAsNumbers() {
        doc.sentence(0, "ta: 100 times whom it is TO, and AT; what: 100 times SECRET and 1, 10 times SHOWN and 1, and STAMP");
        CardUnsigned x = Given.office(8);
        doc.refusedEach(x, "card(#, 0)", -1, "-1", "-100", "800", "900", "MIN", "MAX");
        doc.refusedEach(x, "card(0, #)", -1, "-1", "2", "9", "50", "51", "90", "842", "850", "900", "901", "MIN", "MAX");
        doc.due(x, "card(799, 100)", 0);
        doc.due(x, "of(0, 13)", 7);
        doc.due(x, "of(0, 6)", 99);
        doc.due(x, "of(0, 8)", 0);
        doc.due(x, "card(700, 40)", 1);
        doc.due(x, "of(1, 6)", 0);
        doc.due(x, "of(1, 7)", 3);
        doc.due(x, "card(0, 10)", 2);
        doc.due(x, "of(2, 7)", 0);
        doc.due(x, "card(0, 1)", 3);
        doc.due(x, "of(3, 9)", 1);
    }

    private static void mend() {
        doc.sentence(5, "of one, AT (6), SHOWN (7), SECRET (8), STAMP (9) of a CARD");
        CardUnsigned x = Given.fullOffice();
        int[] v = {5, 6, 2, 7, 8, 9, 10, 1, 3, 1, 11, 12, 13};
        int[] first = {0, 99, 1, 0, 0, 0, 50, -1, -1, 0, 2, 10, 10};
        for (int what = 0; what <= 12; what++) {
            int number = what <= 9 ? 3 : 0;
            doc.due(x, "mend(" + number + ", " + what + ", " + v[what] + ")", first[what]);
            doc.due(x, "mend(" + number + ", " + what + ", " + v[what] + ")", v[what]);
        }
        for (int what = 0; what <= 12; what++) {
            doc.due(x, "of(" + (what <= 9 ? 3 : 0) + ", " + what + ")", v[what]);
            doc.due(x, "of(" + (what <= 9 ? 2 : 0) + ", " + what + ")", what <= 9 ? first[what] : v[what]);
        }
    }

    private static void mendRefused() {
        doc.sentence(5, "(12; number 0 for these) becomes v: what it was. VOID: BAD.");
        CardUnsigned x = Given.office(3);
        x.card(0, 0);
        for (int what = 0; what <= 12; what++) {
            int many = what <= 5 ? 3 : 1;
            doc.refusedEach(x, "mend(#, " + what + ", 1)", VOID, "-1", String.valueOf(many), "8", "MIN", "MAX");
            doc.due(x, "mend(" + (many - 1) + ", " + what + ", 1)", x.of(many - 1, what));
        }
        doc.refusedEach(x, "mend(0, #, 0)", VOID, "-1", "13", "14", "15", "16", "MIN", "MAX");
    }

    private static void of() {
        doc.sentence(6, "of a CARD 13 whom it is TO, 14 who sent it in deed, 15 who is THANKED for it (NOT: nobody).");
        CardUnsigned x = Given.office(2);
        x.send(10, 0);
        x.card(100, 0);
        doc.due(x, "of(0, 13)", 0);
        doc.due(x, "of(0, 14)", 1);
        doc.due(x, "of(0, 15)", -2);
        x.thanked(0);
        doc.due(x, "of(0, 15)", 0);
        doc.due(x, "of(1, 13)", 1);
        doc.due(x, "of(1, 14)", -2);
        doc.due(x, "of(1, 15)", -2);
    }

    private static void ofAsOfMend() {
        doc.sentence(6, "As of mend() (0 to 12)");
        CardUnsigned x = Given.fullOffice();
        int[] due = {0, 99, 1, 0, 0, 0, 50, -1, -1, 0, 2, 10, 10};
        for (int what = 0; what <= 12; what++) {
            doc.due(x, "of(0, " + what + ")", due[what]);
            doc.due(x, "of(7, " + what + ")", what <= 5 ? due[what] : VOID);
            doc.due(x, "of(5, " + what + ")", what <= 9 ? due[what] : VOID);
        }
    }

    private static void ofRefused() {
        doc.sentence(6, "VOID: BAD.");
        CardUnsigned x = Given.office(2);
        x.card(0, 0);
        for (int what = 0; what <= 15; what++) {
            int many = what <= 5 ? 2 : 1;
            doc.refusedEach(x, "of(#, " + what + ")", VOID, "-1", String.valueOf(many), "8", "MIN", "MAX");
        }
        doc.refusedEach(x, "of(0, #)", VOID, "-1", "16", "MIN", "MAX");
    }

    private static void feed() {
        doc.sentence(7, "A byte (0 .. 255) comes to THE TAPE: how many it has.");
        CardUnsigned x = new CardUnsigned();
        doc.due(x, "feed(0)", 1);
        doc.due(x, "feed(255)", 2);
        doc.due(x, "count(2)", 2);
        doc.sentence(7, "BAD, FULL (120).");
        refusedLetters(x);
        for (int i = 3; i <= 120; i++) {
            doc.due(x, "feed(" + (256 - i) + ")", i);
        }
        doc.refused(x, "feed(49)", -3);
        doc.refused(x, "feed(0)", -3);
        refusedLetters(x);
        doc.due(x, "count(2)", 120);
    }

    private static void refusedLetters(CardUnsigned x) {
        doc.refusedEach(x, "feed(#)", -1, "-1", "256", "MIN", "MAX");
    }
}
