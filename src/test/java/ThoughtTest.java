/** Promises 9 and 11 to 23: cards in thought. */
public final class ThoughtTest {
    private static final Check check = new Check();
    private static final long NONE = Long.MIN_VALUE;

    public static void main(String[] args) {
        could();
        likely();
        likeliest();
        sets();
        unlikeAtMost();
        evenings();
        ask();
        thank();
        thankForAThousandth();
        next();
        write();
        writeByLaw();
        writeWhenFull();
        check.end();
    }

    private static void could() {
        CardUnsigned x = Given.office(4);
        x.card(50, 0);
        x.card(150, 401);
        check.due(9, "could(0)", x.could(0), 14);
        check.due(9, "could(1)", x.could(1), 0);
        x.mend(0, 5, 8);
        x.mend(1, 5, 8);
        x.mend(2, 5, 8);
        x.mend(3, 5, 247);
        check.due(9, "could(1), who know it", x.could(1), 5);
        x.mend(0, 0, 50);
        x.mend(2, 1, 50);
        check.due(9, "could(1), in the office both", x.could(1), 5);
        x.mend(0, 0, 51);
        check.due(9, "could(1), not yet in", x.could(1), 4);
        x.mend(2, 1, 49);
        check.due(9, "could(1), no more in", x.could(1), 0);
        x.mend(1, 9, 0);
        check.due(9, "could(1), no stamp", x.could(1), 5);
        check.due(9, "could(2)", x.could(2), -1);
        check.due(9, "could(-1)", x.could(-1), -1);
    }

    private static void likely() {
        CardUnsigned x = Given.office(4);
        x.card(0, 30);
        check.due(11, "above", x.likely(1, 0), 1);
        check.due(11, "below", x.likely(1, 1), 7);
        check.due(11, "above", x.likely(2, 0), 5);
        check.due(11, "below", x.likely(2, 1), 7);
        check.due(11, "to that one, above", x.likely(0, 0), 0);
        check.due(11, "to that one, below", x.likely(0, 1), 1);
        check.due(11, "part 2", x.likely(1, 2), NONE);
        check.due(11, "part -1", x.likely(1, -1), NONE);
        check.due(11, "ct 4", x.likely(4, 0), NONE);
        check.due(11, "ct 10", x.likely(10, 0), NONE);
        check.due(11, "ct -1", x.likely(-1, 0), NONE);
        Given.law(x, "0");
        check.due(11, "for nobody, above", x.likely(1, 0), 0);
        check.due(11, "for nobody, below", x.likely(1, 1), 1);
    }

    private static void likeliest() {
        CardUnsigned x = Given.office(4);
        x.card(0, 30);
        check.due(12, "likeliest", x.likeliest(0, 0), 2);
        check.due(12, "sure", x.likeliest(0, 1), -2);
        x.mend(0, 7, -1);
        check.due(12, "of like ones the least", x.likeliest(0, 0), 1);
        Given.law(x, "h=0&s");
        check.due(12, "for nobody", x.likeliest(0, 0), -2);
        check.due(12, "for nobody, sure", x.likeliest(0, 1), -2);
        x.mend(0, 7, 2);
        x.mend(3, 3, 9);
        check.due(12, "sure", x.likeliest(0, 1), 3);
        check.due(12, "what 2", x.likeliest(0, 2), -1);
        check.due(12, "card 1", x.likeliest(1, 0), -1);
    }

    private static void sets() {
        CardUnsigned x = Given.office(4);
        check.due(13, "of none", x.allByOne(0), 15);
        check.due(13, "of one that is not there", x.allByOne(1), -1);
        check.due(13, "below 0", x.allByOne(-1), -1);
        x.card(0, 0);
        x.card(100, 0);
        x.card(200, 0);
        x.card(300, 0);
        check.due(13, "of two", x.allByOne(5), 10);
        check.due(13, "of all", x.allByOne(15), 0);
        check.due(13, "16", x.allByOne(16), -1);
        check.due(14, "one hand", x.hands(7, 0), 1);
        check.due(14, "one hand, who", x.hands(7, 1), 8);
        check.due(14, "two hands", x.hands(15, 0), 2);
        check.due(14, "two hands, the least bits", x.hands(15, 1), 3);
        check.due(14, "none", x.hands(0, 0), 0);
        check.due(14, "none, who", x.hands(0, 1), 0);
        check.due(14, "16", x.hands(16, 0), -1);
        check.due(14, "what 2", x.hands(1, 2), -1);
        x.mend(1, 8, 5);
        check.due(14, "nobody knows", x.hands(15, 0), -2);
        check.due(14, "nobody knows, who", x.hands(15, 1), -2);
        x.mend(0, 5, 32);
        check.due(14, "two hands", x.hands(15, 1), 3);
        x.mend(3, 5, 32);
        x.mend(0, 5, 0);
        check.due(14, "by one of them each", x.hands(15, 1), 9);
        check.due(15, "no cards", x.unlike(0), 1);
        check.due(15, "two", x.unlike(2), 1);
        check.due(15, "all", x.unlike(15), 3);
        check.due(15, "16", x.unlike(16), -1);
        check.due(15, "-1", x.unlike(-1), -1);
    }

    private static void unlikeAtMost() {
        CardUnsigned x = Given.office(8);
        for (int i = 0; i < 6; i++) {
            x.card(700, 0);
        }
        check.due(15, "7 * 6 * 5 * 4 * 3 * 2", x.unlike(63), 5040);
        CardUnsigned y = Given.office(5);
        for (int i = 0; i < 6; i++) {
            y.card(400, 0);
        }
        check.due(15, "too few", y.unlike(63), 0);
        check.due(15, "just so many", y.unlike(15), 24);
    }

    private static void evenings() {
        CardUnsigned x = Given.office(8);
        for (int i = 0; i < 7; i++) {
            x.mend(i, 4, 1 << i + 1);
        }
        x.mend(0, 5, 8);
        for (int n = 0; n <= 9; n++) {
            check.due(16, "a chain, n " + n, x.evenings(3, n), (1 << Math.min(n, 7) + 1) - 1);
        }
        for (int i = 0; i < 8; i++) {
            check.due(17, "a chain, one " + i, x.hears(3, i), i);
            check.due(17, "another one, " + i, x.hears(2, i), -2);
        }
        check.due(16, "another one", x.evenings(2, 9), 0);
        check.due(16, "n 10", x.evenings(3, 10), -1);
        check.due(16, "n -1", x.evenings(3, -1), -1);
        check.due(16, "secret 8", x.evenings(8, 0), -1);
        check.due(16, "secret -1", x.evenings(-1, 0), -1);
        check.due(17, "one 8", x.hears(3, 8), -1);
        check.due(17, "one -1", x.hears(3, -1), -1);
        check.due(17, "secret 8", x.hears(8, 0), -1);
        CardUnsigned y = Given.office(2);
        y.mend(0, 4, 255);
        y.mend(0, 5, 1);
        check.due(16, "only people are told", y.evenings(0, 1), 3);
        check.due(16, "what they know is as it was", y.of(1, 5), 0);
    }

    private static void ask() {
        CardUnsigned x = Given.office(5);
        x.card(0, 0);
        check.due(18, "nobody knows: by hand", x.ask(0, 0), 8);
        check.due(18, "nobody knows: by hand, sum", x.ask(0, 1), 36);
        x.mend(1, 5, 128);
        x.mend(2, 5, 192);
        check.due(18, "a secret that two know", x.ask(0, 0), 7);
        check.due(18, "a secret that two know, sum", x.ask(0, 1), 24);
        x.mend(1, 5, 0);
        x.mend(2, 5, 0);
        x.mend(1, 2, 0);
        x.mend(2, 2, 0);
        x.mend(3, 2, 0);
        x.mend(4, 2, 0);
        Given.law(x, "1");
        check.due(18, "of like ones the least", x.ask(0, 0), 0);
        x.mend(3, 4, 1);
        x.mend(4, 4, 1);
        check.due(18, "the last question", x.ask(0, 0), 12);
        check.due(18, "the last question, sum", x.ask(0, 1), 2);
        check.due(18, "what 2", x.ask(0, 2), -1);
        check.due(18, "card 1", x.ask(1, 0), -1);
        Given.law(x, "0");
        check.due(18, "for nobody", x.ask(0, 0), 0);
        check.due(18, "for nobody, sum", x.ask(0, 1), 0);
    }

    private static void thank() {
        CardUnsigned x = Given.office(4);
        x.card(0, 30);
        check.due(19, "5 by 7", x.worth(2), 4285);
        check.due(19, "1 by 7", x.worth(1), -7142);
        check.due(19, "0", x.worth(0), -10000);
        check.due(20, "whom", x.thank(0), 2);
        x.mend(0, 11, 4);
        check.due(19, "nothing", x.worth(2), 0);
        check.due(20, "nobody's is above 0", x.thank(0), -2);
        x.mend(0, 12, 0);
        x.mend(0, 7, -1);
        check.due(19, "a third of 4", x.worth(1), 1333);
        check.due(20, "of like ones the least", x.thank(0), 1);
        x.mend(0, 11, 99);
        x.mend(0, 12, 99);
        check.due(19, "a third less two thirds of 99", x.worth(3), -33000);
        check.due(19, "ct 4", x.worth(4), CardUnsigned.VOID);
        check.due(19, "ct 10", x.worth(10), CardUnsigned.VOID);
        check.due(19, "ct -1", x.worth(-1), CardUnsigned.VOID);
        check.due(20, "card 1", x.thank(1), -1);
        Given.law(x, "0");
        check.due(19, "for nobody", x.worth(1), 0);
        check.due(20, "for nobody", x.thank(0), -2);
    }

    /** 5 times 99 less 494 is 1, and that by 593 is a thousandth as cut. */
    private static void thankForAThousandth() {
        CardUnsigned x = Given.office(8);
        x.card(0, 0);
        x.mend(5, 3, 1);
        x.mend(6, 3, 1);
        x.mend(7, 3, 9);
        x.mend(0, 11, 5);
        x.mend(0, 12, 1);
        Given.law(x, "s=9?99;s=1?81;83");
        check.due(19, "a thousandth", x.worth(7), 1);
        check.due(20, "a thousandth is above 0", x.thank(0), 7);
        x.mend(0, 11, 4);
        check.due(20, "nobody's is above 0", x.thank(0), -2);
    }

    private static void next() {
        CardUnsigned x = Given.office(4);
        x.card(50, 1);
        check.due(21, "nobody knows any", x.next(0, 0), -2);
        check.due(21, "nobody knows any, how many", x.next(0, 1), -2);
        x.mend(0, 5, 1);
        check.due(21, "it is to the one who knows", x.next(0, 0), -2);
        x.mend(1, 5, 2 + 4 + 16);
        x.mend(2, 5, 2 + 4);
        check.due(21, "fewest", x.next(0, 0), 4);
        check.due(21, "fewest, how many", x.next(0, 1), 1);
        x.mend(1, 0, 51);
        check.due(21, "in the office", x.next(0, 0), 1);
        check.due(21, "in the office, how many", x.next(0, 1), 1);
        check.due(21, "what 2", x.next(0, 2), -1);
        check.due(21, "card 1", x.next(1, 0), -1);
        check.due(21, "the card is as it was", x.of(0, 8), -1);
    }

    private static void write() {
        CardUnsigned x = Given.office(3);
        x.mend(1, 5, 128);
        x.mend(1, 1, 40);
        x.mend(2, 5, 128);
        check.due(22, "likeliest", x.write(10, 50, 0), 20);
        check.due(23, "likeliest, above", x.written(10, 50, 0), 5);
        check.due(23, "likeliest, below", x.written(10, 50, 1), 6);
        check.due(22, "least likely", x.write(10, 50, 1), 30);
        check.due(23, "least likely, above", x.written(10, 50, 10), 1);
        check.due(23, "least likely, below", x.written(10, 50, 11), 6);
        check.due(22, "stamped, when the other one is out", x.write(20, 50, 0), 1);
        check.due(23, "stamped, above", x.written(20, 50, 0), 1);
        check.due(23, "stamped, below", x.written(20, 50, 1), 1);
        x.mend(2, 5, 0);
        check.due(22, "a secret alone", x.write(10, 50, 0), 800);
        check.due(22, "to itself", x.write(11, 0, 0), -1);
        check.due(22, "nobody writes", x.write(30, 0, 0), -1);
        check.due(22, "to nobody", x.write(3, 0, 0), -1);
        check.due(22, "ft -1", x.write(-1, 0, 0), -1);
        check.due(22, "minute 100", x.write(10, 100, 0), -1);
        check.due(22, "minute -1", x.write(10, -1, 0), -1);
        check.due(22, "how 2", x.write(10, 0, 2), -1);
        check.due(22, "how -1", x.write(10, 0, -1), -1);
        check.due(23, "hp 2", x.written(10, 0, 2), NONE);
        check.due(23, "hp 20", x.written(10, 0, 20), NONE);
        check.due(23, "hp -1", x.written(10, 0, -1), NONE);
        check.due(23, "to itself", x.written(11, 0, 0), NONE);
        check.due(23, "minute 100", x.written(10, 100, 0), NONE);
        check.due(22, "no card came", x.count(1), 0);
    }

    private static void writeByLaw() {
        CardUnsigned x = Given.office(3);
        x.card(0, 0);
        x.card(0, 0);
        Given.law(x, "c=2?h;99");
        check.due(22, "its number is how many there are", x.write(10, 50, 0), 20);
        check.due(23, "below", x.written(10, 50, 1), 1);
        check.due(22, "0 is least likely", x.write(10, 50, 1), 30);
        check.due(23, "0, above", x.written(10, 50, 10), 0);
        check.due(23, "0, below", x.written(10, 50, 11), 1);
        Given.law(x, "m*s");
        check.due(22, "for nobody", x.write(10, 50, 0), -2);
        check.due(22, "for nobody", x.write(10, 50, 1), -2);
        check.due(23, "for nobody, above", x.written(10, 50, 0), 0);
        check.due(23, "for nobody, below", x.written(10, 50, 11), 1);
        x.mend(2, 3, 1);
        check.due(22, "only for the other one", x.write(10, 50, 0), 1);
        check.due(23, "only for the other one, above", x.written(10, 50, 0), 0);
    }

    private static void writeWhenFull() {
        CardUnsigned x = Given.office(3);
        for (int i = 0; i < 6; i++) {
            x.card(i, 101);
        }
        Given.law(x, "c=6?h+1;0");
        check.due(22, "the seventh in thought", x.write(10, 50, 0), 20);
        check.due(23, "the seventh in thought, above", x.written(10, 50, 0), 3);
        check.due(23, "the seventh in thought, below", x.written(10, 50, 1), 4);
        for (int i = 0; i < 6; i++) {
            check.due(22, "cards are as they were", x.of(i, 6), i);
            check.due(22, "cards are as they were", x.of(i, 8), 0);
        }
    }
}
