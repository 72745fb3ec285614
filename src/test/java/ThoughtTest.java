import java.math.BigInteger;

/** Promises 9 to 23: cards in thought. */
public final class ThoughtTest {
    private static final Sentences doc = new Sentences();
    private static final long NONE = Sentences.NONE;

    public static void main(String[] args) {
        could();
        couldByOffice();
        couldRefused();
        counts();
        likely();
        likelyRefused();
        likelyLowestTerms();
        likelyOfNobody();
        likeliest();
        sure();
        allByOne();
        hands();
        handsNot();
        unlike();
        unlikeAtMost();
        evenings();
        eveningsAllAtOnce();
        hears();
        ask();
        askOfLikeOnes();
        worth();
        worthCut();
        thank();
        thankOfLikeOnes();
        next();
        nextNot();
        nextElseLikeThisOne();
        writeAsNumbered();
        writeWays();
        writeShown();
        writeStamp();
        writeByEach();
        writeOfLikeOnes();
        writeForNobody();
        writeNot();
        writeInLowestTerms();
        writeRefused();
        written();
        doc.end(9, 23);
    }

    /** A call with each of these cards is refused, when there are six. */
    private static void cardsRefused(String name, String behind, long want) {
        CardUnsigned x = Given.fullOffice();
        doc.refusedEach(x, name + "(#" + behind + ")", want, "-1", "6", "7", "MIN", "MAX");
        doc.refused(new CardUnsigned(), name + "(0" + behind + ")", want);
        doc.refused(Given.office(8), name + "(0" + behind + ")", want);
    }

    /** A call with each of these numbers of a card and one is refused, when there are six and eight. */
    private static void cardsAndPeopleRefused(String name, String behind, long want) {
        CardUnsigned x = Given.fullOffice();
        doc.refusedEach(x, name + "(#" + behind + ")", want, "-1", "-10", "8", "9", "58", "59", "60", "67", "MIN", "MAX");
        doc.refused(new CardUnsigned(), name + "(0" + behind + ")", want);
        doc.refused(Given.office(1), name + "(0" + behind + ")", want);
        CardUnsigned y = Given.office(3);
        y.card(0, 0);
        doc.refused(y, name + "(3" + behind + ")", want);
        doc.refused(y, name + "(10" + behind + ")", want);
    }

    /** A set of cards that are not all there is refused. */
    private static void setsRefused(String name, String behind) {
        CardUnsigned x = new CardUnsigned();
        x.person(0);
        for (int cards = 0; cards <= 6; cards++) {
            doc.refusedEach(x, name + "(#" + behind + ")", -1, "-1", String.valueOf(1 << cards), "64", "128", "MIN", "MAX");
            x.card(0, 0);
        }
    }

    /** Of two numbers to choose by, others are refused. */
    private static void choicesRefused(String ahead, long want) {
        CardUnsigned x = Given.fullOffice();
        doc.refusedEach(x, ahead + "#)", want, "-1", "2", "MIN", "MAX");
    }

    private static void could() {
        doc.sentence(9, "Who COULD.");
        CardUnsigned x = Given.fullOffice();
        doc.due(x, "could(0)", 254);
        doc.due(x, "could(5)", 254);
        CardUnsigned y = Given.office(1);
        y.card(0, 0);
        doc.due(y, "could(0)", 0);
    }

    private static void couldByOffice() {
        doc.sentence(0, "One COULD have written a CARD, if it is not TO, KNOWS its SECRET (if there is one), and, if it has a STAMP, "
            + "was in the office AT that minute.");
        CardUnsigned x = Given.office(4);
        x.card(150, 401);
        doc.due(x, "could(0)", 0);
        x.mend(0, 5, 8);
        x.mend(1, 5, 255);
        x.mend(2, 5, 255);
        x.mend(3, 5, 247);
        doc.due(x, "could(0)", 5);
        x.mend(0, 0, 50);
        x.mend(2, 1, 50);
        doc.due(x, "could(0)", 5);
        x.mend(0, 0, 51);
        doc.due(x, "could(0)", 4);
        x.mend(2, 1, 49);
        doc.due(x, "could(0)", 0);
        x.mend(0, 9, 0);
        doc.due(x, "could(0)", 5);
        x.mend(0, 8, -1);
        doc.due(x, "could(0)", 13);
        x.mend(0, 9, 1);
        doc.due(x, "could(0)", 8);
        x.mend(3, 0, 60);
        x.mend(3, 1, 40);
        doc.due(x, "could(0)", 0);
        x.mend(0, 6, 99);
        doc.due(x, "could(0)", 1);
        x.mend(0, 6, 0);
        doc.due(x, "could(0)", 4);
    }

    private static void couldRefused() {
        doc.sentence(9, "BAD.");
        cardsRefused("could", "", -1);
    }

    private static void counts() {
        CardUnsigned x = officeOfUnlikeOnes();
        doc.sentence(0, "ct: 10 times the CARD, and one of PEOPLE");
        for (int card = 0; card < 6; card++) {
            for (int one = 0; one < 8; one++) {
                doc.due(x, "counts(" + (10 * card + one) + ")", one == card ? 0 : 8 * card + one + 1);
            }
        }
        doc.sentence(10, "How much it COUNTS for one. BAD.");
        cardsAndPeopleRefused("counts", "", -1);
    }

    /** Eight people, six cards to the first six of them; each card counts another number for each. */
    private static CardUnsigned officeOfUnlikeOnes() {
        CardUnsigned x = Given.office(8);
        for (int one = 0; one < 8; one++) {
            x.mend(one, 3, one + 1);
        }
        for (int card = 0; card < 6; card++) {
            x.card(100 * card, 0);
        }
        Given.law(x, "c*8+s");
        return x;
    }

    /** What a card of that office counts for all. */
    private static int allOfUnlikeOnes(int card) {
        return 7 * 8 * card + 36 - (card + 1);
    }

    private static void likely() {
        doc.sentence(11, "LIKELY.");
        CardUnsigned x = Given.office(4);
        x.card(0, 30);
        doc.due(x, "likely(1, 0)", 1);
        doc.due(x, "likely(1, 1)", 7);
        doc.due(x, "likely(2, 0)", 5);
        doc.due(x, "likely(2, 1)", 7);
        doc.sentence(0, "cards in thought (part 0 above, 1 below the line)");
        CardUnsigned y = officeOfUnlikeOnes();
        for (int card = 0; card < 6; card++) {
            for (int one = 0; one < 8; one++) {
                int here = one == card ? 0 : 8 * card + one + 1;
                int divisor = BigInteger.valueOf(here).gcd(BigInteger.valueOf(allOfUnlikeOnes(card))).intValue();
                doc.due(y, "likely(" + (10 * card + one) + ", 0)", here / divisor);
                doc.due(y, "likely(" + (10 * card + one) + ", 1)", allOfUnlikeOnes(card) / divisor);
            }
        }
    }

    private static void likelyRefused() {
        doc.sentence(11, "Long.MIN_VALUE: BAD.");
        for (int part = 0; part <= 1; part++) {
            cardsAndPeopleRefused("likely", ", " + part, NONE);
        }
        choicesRefused("likely(1, ", NONE);
    }

    private static void likelyLowestTerms() {
        doc.sentence(0, "LIKELY: that by what it COUNTS for all, in lowest terms");
        CardUnsigned x = Given.fullOffice();
        Given.law(x, "99");
        doc.due(x, "likely(57, 0)", 1);
        doc.due(x, "likely(57, 1)", 7);
        doc.due(x, "likely(50, 0)", 0);
        doc.due(x, "likely(50, 1)", 1);
        Given.law(x, "98+s");
        x.mend(7, 3, 1);
        doc.due(x, "likely(7, 0)", 33);
        doc.due(x, "likely(7, 1)", 229);
        Given.law(x, "s");
        doc.due(x, "likely(7, 0)", 1);
        doc.due(x, "likely(7, 1)", 1);
        doc.due(x, "likely(6, 0)", 0);
        doc.due(x, "likely(6, 1)", 1);
    }

    private static void likelyOfNobody() {
        doc.sentence(0, "(all 0: 0 by 1)");
        CardUnsigned x = Given.office(4);
        x.card(0, 30);
        Given.law(x, "0");
        for (int one = 0; one < 4; one++) {
            doc.due(x, "likely(" + one + ", 0)", 0);
            doc.due(x, "likely(" + one + ", 1)", 1);
        }
        CardUnsigned y = Given.office(1);
        y.card(0, 0);
        doc.due(y, "likely(0, 0)", 0);
        doc.due(y, "likely(0, 1)", 1);
    }

    private static void likeliest() {
        doc.sentence(12, "LIKELIEST (what 0), SURE (1). BAD; NOT.");
        for (int what = 0; what <= 1; what++) {
            cardsRefused("likeliest", ", " + what, -1);
        }
        choicesRefused("likeliest(0, ", -1);
        doc.sentence(0, "LIKELIEST (of like ones the least; NOT: it COUNTS for nobody)");
        CardUnsigned x = Given.office(4);
        x.card(0, 30);
        doc.due(x, "likeliest(0, 0)", 2);
        x.mend(0, 7, -1);
        doc.due(x, "likeliest(0, 0)", 1);
        Given.law(x, "s");
        doc.due(x, "likeliest(0, 0)", -2);
        x.mend(0, 3, 9);
        doc.due(x, "likeliest(0, 0)", -2);
        x.mend(3, 3, 1);
        doc.due(x, "likeliest(0, 0)", 3);
        x.mend(2, 3, 1);
        doc.due(x, "likeliest(0, 0)", 2);
        x.mend(3, 3, 2);
        doc.due(x, "likeliest(0, 0)", 3);
        x.card(100, 0);
        doc.due(x, "likeliest(1, 0)", 0);
        CardUnsigned y = officeOfUnlikeOnes();
        for (int card = 0; card < 6; card++) {
            doc.due(y, "likeliest(" + card + ", 0)", 7);
        }
    }

    private static void sure() {
        doc.sentence(0, "SURE: the only one for whom it COUNTS (NOT).");
        CardUnsigned x = Given.office(4);
        x.card(0, 30);
        doc.due(x, "likeliest(0, 1)", -2);
        Given.law(x, "s");
        doc.due(x, "likeliest(0, 1)", -2);
        x.mend(0, 3, 9);
        doc.due(x, "likeliest(0, 1)", -2);
        x.mend(3, 3, 9);
        doc.due(x, "likeliest(0, 1)", 3);
        x.mend(1, 3, 1);
        doc.due(x, "likeliest(0, 1)", -2);
        x.mend(3, 3, 0);
        doc.due(x, "likeliest(0, 1)", 1);
        x.card(200, 0);
        doc.due(x, "likeliest(1, 1)", -2);
        x.mend(1, 3, 0);
        doc.due(x, "likeliest(1, 1)", 0);
        x.mend(0, 3, 1);
        x.mend(1, 3, 2);
        doc.due(x, "likeliest(1, 1)", -2);
    }

    private static void allByOne() {
        doc.sentence(13, "ALL BY ONE (sets of CARDS that are there). BAD.");
        setsRefused("allByOne", "");
        doc.sentence(0, "ALL BY ONE: who (bits) COULD have written all CARDS of a set (bits; of none: all PEOPLE).");
        CardUnsigned x = new CardUnsigned();
        for (int people = 0; people <= 8; people++) {
            doc.due(x, "allByOne(0)", (1 << people) - 1);
            x.person(0);
        }
        x.card(0, 0);
        x.card(100, 0);
        x.card(200, 0);
        x.card(300, 0);
        x.card(400, 800);
        x.card(500, 0);
        doc.due(x, "allByOne(1)", 254);
        doc.due(x, "allByOne(5)", 250);
        doc.due(x, "allByOne(47)", 208);
        doc.due(x, "allByOne(63)", 0);
        doc.due(x, "allByOne(0)", 255);
    }

    private static void hands() {
        doc.sentence(14, "HANDS: how many (what 0), who (1). BAD; NOT.");
        setsRefused("hands", ", 0");
        setsRefused("hands", ", 1");
        choicesRefused("hands(0, ", -1);
        choicesRefused("hands(63, ", -1);
        doc.sentence(0, "each by one of them: how many; who (bits; of like ones the least); NOT.");
        CardUnsigned x = Given.office(4);
        doc.due(x, "hands(0, 0)", 0);
        doc.due(x, "hands(0, 1)", 0);
        x.card(0, 0);
        x.card(100, 0);
        x.card(200, 0);
        doc.due(x, "hands(6, 0)", 1);
        doc.due(x, "hands(6, 1)", 1);
        doc.due(x, "hands(7, 1)", 8);
        x.card(300, 0);
        doc.due(x, "hands(15, 0)", 2);
        doc.due(x, "hands(15, 1)", 3);
        x.mend(1, 8, 5);
        x.mend(3, 5, 32);
        doc.due(x, "hands(15, 0)", 2);
        doc.due(x, "hands(15, 1)", 9);
        CardUnsigned y = Given.office(8);
        for (int i = 0; i < 6; i++) {
            y.mend(7 - i, 5, 1 << i);
            y.card(0, 100 * (i + 1));
        }
        doc.due(y, "hands(63, 0)", 6);
        doc.due(y, "hands(63, 1)", 252);
        CardUnsigned z = Given.office(2);
        z.card(0, 0);
        z.card(100, 0);
        doc.due(z, "hands(3, 0)", 2);
        doc.due(z, "hands(3, 1)", 3);
    }

    private static void handsNot() {
        doc.sentence(14, "BAD; NOT.");
        CardUnsigned x = Given.office(8);
        x.card(0, 0);
        x.card(0, 800);
        doc.due(x, "hands(1, 0)", 1);
        for (int what = 0; what <= 1; what++) {
            doc.due(x, "hands(2, " + what + ")", -2);
            doc.due(x, "hands(3, " + what + ")", -2);
        }
        x.mend(0, 5, 128);
        doc.due(x, "hands(3, 0)", -2);
        x.mend(7, 5, 128);
        doc.due(x, "hands(3, 0)", 1);
        doc.due(x, "hands(3, 1)", 128);
    }

    private static void unlike() {
        doc.sentence(15, "UNLIKE. BAD.");
        setsRefused("unlike", "");
        CardUnsigned x = Given.office(3);
        doc.due(x, "unlike(0)", 1);
        x.card(0, 0);
        x.card(100, 0);
        x.card(200, 0);
        doc.due(x, "unlike(1)", 2);
        doc.due(x, "unlike(3)", 3);
        doc.due(x, "unlike(7)", 2);
        x.card(0, 100);
        doc.due(x, "unlike(8)", 0);
        doc.due(x, "unlike(15)", 0);
        doc.due(x, "unlike(7)", 2);
    }

    private static void unlikeAtMost() {
        doc.sentence(0, "UNLIKE: in how many ways all CARDS of a set could be by unlike ones.");
        CardUnsigned x = Given.fullOffice();
        doc.due(x, "unlike(63)", 7 * 6 * 5 * 4 * 3 * 2);
        CardUnsigned y = Given.office(5);
        for (int i = 0; i < 6; i++) {
            y.card(400, 0);
        }
        doc.due(y, "unlike(15)", 24);
        doc.due(y, "unlike(60)", 24);
        doc.due(y, "unlike(31)", 0);
        doc.due(y, "unlike(63)", 0);
    }

    private static void evenings() {
        doc.sentence(16, "EVENINGS: who KNOWS a SECRET behind n of them. BAD.");
        CardUnsigned x = Given.office(8);
        for (int i = 0; i < 7; i++) {
            x.mend(i, 4, 1 << i + 1);
        }
        x.mend(0, 5, 128);
        for (int n = 0; n <= 9; n++) {
            doc.due(x, "evenings(7, " + n + ")", (1 << Math.min(n, 7) + 1) - 1);
            doc.due(x, "evenings(0, " + n + ")", 0);
        }
        doc.sentence(0, "who KNOWS a SECRET behind n (0 .. 9) of them (bits); behind how many one KNOWS it first (NOT).");
        doc.refusedEach(x, "evenings(7, #)", -1, "-1", "10", "MIN", "MAX");
        doc.refusedEach(x, "evenings(#, 0)", -1, "-1", "8", "MIN", "MAX");
        doc.due(new CardUnsigned(), "evenings(7, 9)", 0);
    }

    private static void eveningsAllAtOnce() {
        doc.sentence(0, "each evening everybody tells whom it LIKES all it KNOWS (all at once)");
        CardUnsigned x = Given.office(4);
        x.mend(0, 4, 2);
        x.mend(1, 4, 4);
        x.mend(3, 4, 8);
        x.mend(0, 5, 1);
        doc.due(x, "evenings(0, 1)", 3);
        doc.due(x, "evenings(0, 2)", 7);
        doc.due(x, "evenings(0, 9)", 7);
        doc.due(x, "of(1, 5)", 0);
        CardUnsigned y = Given.office(2);
        y.mend(0, 4, 255);
        y.mend(0, 5, 1);
        doc.due(y, "evenings(0, 1)", 3);
        doc.due(y, "evenings(0, 9)", 3);
    }

    private static void hears() {
        doc.sentence(17, "Behind how many one KNOWS it. BAD; NOT.");
        CardUnsigned x = Given.office(8);
        for (int i = 0; i < 7; i++) {
            x.mend(i, 4, 1 << i + 1);
        }
        x.mend(0, 5, 129);
        for (int one = 0; one < 8; one++) {
            doc.due(x, "hears(7, " + one + ")", one);
            doc.due(x, "hears(0, " + one + ")", one);
            doc.due(x, "hears(6, " + one + ")", -2);
        }
        x.mend(6, 4, 0);
        doc.due(x, "hears(7, 7)", -2);
        doc.refusedEach(x, "hears(7, #)", -1, "-1", "8", "MIN", "MAX");
        doc.refusedEach(x, "hears(#, 0)", -1, "-1", "8", "MIN", "MAX");
        doc.refused(new CardUnsigned(), "hears(0, 0)", -1);
        doc.refused(Given.office(7), "hears(0, 7)", -1);
    }

    private static void ask() {
        doc.sentence(18, "ASK: which (what 0), that sum (1). BAD.");
        for (int what = 0; what <= 1; what++) {
            cardsRefused("ask", ", " + what, -1);
        }
        choicesRefused("ask(0, ", -1);
        doc.sentence(0, "ASK: QUESTIONS 0 .. 7: do you KNOW that SECRET; 8 .. 11: is it your HAND (0 .. 3); 12: do you LIKE whom it is TO");
        for (int question = 0; question <= 12; question++) {
            CardUnsigned x = question >= 8 && question < 12 ? officeOfHands(question - 8) : officeOfOneHand();
            x.card(0, 0);
            Given.law(x, "1");
            for (int one = 1; one <= 2 && question < 8; one++) {
                x.mend(one, 5, 1 << question);
            }
            for (int one = 1; one <= 2 && question == 12; one++) {
                x.mend(one, 4, 1);
            }
            doc.due(x, "ask(0, 0)", question);
            doc.due(x, "ask(0, 1)", 2);
        }
    }

    /** Two are of a hand, two of unlike other ones; the first, whom cards are to, is of yet another one. */
    private static CardUnsigned officeOfHands(int hand) {
        CardUnsigned x = new CardUnsigned();
        int[] hands = {hand + 3, hand, hand, hand + 1, hand + 2};
        for (int h : hands) {
            x.person(h % 4);
        }
        return x;
    }

    private static CardUnsigned officeOfOneHand() {
        CardUnsigned x = new CardUnsigned();
        for (int i = 0; i < 5; i++) {
            x.person(0);
        }
        return x;
    }

    private static void askOfLikeOnes() {
        doc.sentence(0, "is least (of like ones the least QUESTION): it; that sum.");
        CardUnsigned x = Given.office(5);
        x.card(0, 0);
        doc.due(x, "ask(0, 0)", 8);
        doc.due(x, "ask(0, 1)", 36);
        x.mend(1, 5, 128);
        x.mend(2, 5, 192);
        doc.due(x, "ask(0, 0)", 7);
        doc.due(x, "ask(0, 1)", 24);
        x.mend(3, 5, 8);
        x.mend(4, 5, 8);
        doc.due(x, "ask(0, 0)", 3);
        Given.law(x, "0");
        doc.due(x, "ask(0, 0)", 0);
        doc.due(x, "ask(0, 1)", 0);
        CardUnsigned y = Given.office(2);
        y.card(0, 0);
        doc.due(y, "ask(0, 0)", 0);
        doc.due(y, "ask(0, 1)", 12);
        CardUnsigned z = Given.office(3);
        z.card(200, 0);
        z.mend(0, 5, 16);
        doc.due(z, "ask(0, 0)", 4);
        doc.due(z, "ask(0, 1)", 12);
    }

    private static void worth() {
        doc.sentence(19, "What it is worth to THANK one. VOID: BAD.");
        CardUnsigned x = Given.office(4);
        x.card(0, 30);
        doc.due(x, "worth(2)", 4285);
        doc.due(x, "worth(1)", -7142);
        doc.due(x, "worth(0)", -10000);
        x.mend(0, 11, 4);
        doc.due(x, "worth(2)", 0);
        CardUnsigned y = officeOfUnlikeOnes();
        for (int card = 0; card < 6; card++) {
            for (int one = 0; one < 8; one++) {
                int here = one == card ? 0 : 8 * card + one + 1;
                int all = allOfUnlikeOnes(card);
                doc.due(y, "worth(" + (10 * card + one) + ")", 1000 * (10 * here - 10 * (all - here)) / all);
            }
        }
        cardsAndPeopleRefused("worth", "", Sentences.VOID);
    }

    private static void worthCut() {
        doc.sentence(0, "in thousandths (cut toward 0; it COUNTS for nobody: 0)");
        CardUnsigned x = Given.office(4);
        x.card(0, 0);
        x.mend(0, 11, 2);
        x.mend(0, 12, 0);
        doc.due(x, "worth(1)", 666);
        x.mend(0, 11, 0);
        x.mend(0, 12, 1);
        doc.due(x, "worth(1)", -666);
        doc.due(x, "worth(0)", -1000);
        x.mend(0, 11, 99);
        x.mend(0, 12, 99);
        doc.due(x, "worth(3)", -33000);
        doc.due(x, "worth(0)", -99000);
        Given.law(x, "0");
        for (int one = 0; one < 4; one++) {
            doc.due(x, "worth(" + one + ")", 0);
        }
        Given.law(x, "s=9?99");
        x.mend(3, 3, 9);
        doc.due(x, "worth(3)", 99000);
        CardUnsigned y = Given.fullOffice();
        Given.law(y, "99");
        y.mend(0, 11, 99);
        y.mend(0, 12, 99);
        doc.due(y, "worth(57)", -70714);
    }

    private static void thank() {
        doc.sentence(20, "THANK: whom. BAD; NOT.");
        cardsRefused("thank", "", -1);
        doc.sentence(0, "NOT: nobody's is above 0).");
        CardUnsigned x = Given.office(4);
        x.card(0, 30);
        doc.due(x, "thank(0)", 2);
        x.mend(0, 11, 4);
        doc.due(x, "thank(0)", -2);
        x.mend(0, 11, 5);
        doc.due(x, "thank(0)", 2);
        x.mend(0, 12, 13);
        doc.due(x, "thank(0)", -2);
        Given.law(x, "0");
        x.mend(0, 12, 0);
        doc.due(x, "thank(0)", -2);
    }

    /** 5 times 99 less 494 is 1, and that by 593 is a thousandth as cut. */
    private static void thankOfLikeOnes() {
        doc.sentence(0, "whom it is best to thank (by thousandths as cut; of like ones the least;");
        CardUnsigned x = Given.office(8);
        x.card(0, 0);
        x.mend(5, 3, 1);
        x.mend(6, 3, 1);
        x.mend(7, 3, 9);
        x.mend(0, 11, 5);
        x.mend(0, 12, 1);
        Given.law(x, "s=9?99;s=1?81;83");
        doc.due(x, "worth(7)", 1);
        doc.due(x, "thank(0)", 7);
        x.mend(0, 11, 4);
        doc.due(x, "thank(0)", -2);
        x.mend(0, 12, 0);
        x.mend(0, 11, 10);
        Given.law(x, "3");
        doc.due(x, "thank(0)", 1);
        x.mend(0, 12, 99);
        doc.due(x, "thank(0)", -2);
        x.mend(6, 3, 8);
        x.mend(0, 12, 0);
        Given.law(x, "s=9?2;s=8?1;0");
        doc.due(x, "thank(0)", 7);
        Given.law(x, "s=9?1;s=8?2;0");
        doc.due(x, "thank(0)", 6);
        x.card(100, 0);
        Given.law(x, "3");
        doc.due(x, "thank(1)", 0);
    }

    private static void next() {
        doc.sentence(21, "NEXT: which SECRET (what 0), how many (1). BAD; NOT.");
        for (int what = 0; what <= 1; what++) {
            cardsRefused("next", ", " + what, -1);
        }
        choicesRefused("next(0, ", -1);
        doc.sentence(0, "would leave fewest, but somebody, who COULD (of like ones the least): it; how many; NOT.");
        CardUnsigned x = Given.office(4);
        x.card(50, 0);
        x.mend(1, 5, 255);
        x.mend(2, 5, 254);
        x.mend(3, 5, 126);
        doc.due(x, "next(0, 0)", 0);
        doc.due(x, "next(0, 1)", 1);
        x.mend(1, 5, 254);
        doc.due(x, "next(0, 0)", 7);
        doc.due(x, "next(0, 1)", 2);
        x.mend(3, 5, 254);
        doc.due(x, "next(0, 0)", 1);
        doc.due(x, "next(0, 1)", 3);
    }

    private static void nextNot() {
        doc.sentence(21, "BAD; NOT.");
        CardUnsigned x = Given.office(3);
        x.card(50, 1);
        x.mend(0, 5, 255);
        for (int what = 0; what <= 1; what++) {
            doc.due(x, "next(0, " + what + ")", -2);
        }
        x.mend(2, 5, 128);
        doc.due(x, "next(0, 0)", 7);
        doc.due(x, "next(0, 1)", 1);
        x.mend(2, 0, 51);
        doc.due(x, "next(0, 0)", -2);
        doc.due(x, "next(0, 1)", -2);
    }

    private static void nextElseLikeThisOne() {
        doc.sentence(0, "NEXT: which SECRET (0 .. 7) on a CARD else like this one");
        CardUnsigned x = Given.office(4);
        x.card(50, 801);
        x.mend(1, 5, 128);
        doc.due(x, "next(0, 0)", 7);
        x.mend(2, 5, 129);
        doc.due(x, "next(0, 0)", 0);
        x.mend(2, 1, 49);
        doc.due(x, "next(0, 0)", 7);
        x.mend(0, 9, 0);
        doc.due(x, "next(0, 0)", 0);
        doc.due(x, "of(0, 8)", 7);
    }

    private static void writeAsNumbered() {
        doc.sentence(0, "(a CARD that is not there yet: its number is how many there are)");
        CardUnsigned x = Given.office(3);
        Given.law(x, "c*20");
        for (int cards = 0; cards <= 6; cards++) {
            doc.due(x, "count(1)", cards);
            doc.due(x, "write(10, 50, 0)", cards == 0 ? -2 : 0);
            doc.due(x, "written(10, 50, 0)", cards == 0 ? 0 : 1);
            doc.due(x, "written(10, 50, 1)", cards == 0 ? 1 : 2);
            x.card(cards, 101);
        }
        Given.law(x, "c=6?h+1;0");
        doc.due(x, "write(10, 50, 0)", 20);
        doc.due(x, "written(10, 50, 0)", 3);
        doc.due(x, "written(10, 50, 1)", 4);
        for (int card = 0; card < 6; card++) {
            doc.due(x, "of(" + card + ", 6)", card);
            doc.due(x, "of(" + card + ", 8)", 0);
        }
    }

    private static void writeWays() {
        doc.sentence(0, "(SECRET -1 or one it KNOWS, SHOWN -1 or 0 .. 3, STAMP 0, or 1 if it is in the office then)");
        CardUnsigned x = Given.office(3);
        x.mend(1, 5, 129);
        x.mend(2, 5, 126);
        Given.law(x, "k*50");
        doc.due(x, "write(10, 50, 0)", 100);
        doc.due(x, "written(10, 50, 0)", 1);
        doc.due(x, "written(10, 50, 1)", 1);
        doc.due(x, "write(20, 50, 0)", 200);
        Given.law(x, "k*50*m*(h=2)");
        doc.due(x, "write(10, 50, 0)", 121);
        x.mend(1, 2, 3);
        x.mend(1, 5, 128);
        doc.due(x, "write(10, 50, 0)", 841);
        x.mend(1, 2, 0);
        doc.due(x, "write(10, 50, 0)", 811);
        x.mend(1, 5, 0);
        doc.due(x, "write(10, 50, 0)", -2);
        Given.law(x, "h=0");
        x.mend(1, 2, 0);
        x.mend(2, 2, 0);
        doc.due(x, "write(10, 50, 0)", 20);
    }

    /** Each hand is somebody's beside the two, so that none can be shown that is nobody's. */
    private static void writeShown() {
        doc.sentence(0, "SHOWN -1 or 0 .. 3");
        CardUnsigned x = Given.office(5);
        x.mend(1, 4, 1);
        Given.law(x, "h=0?l*40+1;9");
        doc.due(x, "write(10, 50, 0)", 10);
        doc.due(x, "written(10, 50, 0)", 41);
        doc.due(x, "written(10, 50, 1)", 52);
        CardUnsigned y = Given.office(3);
        Given.law(y, "h>0");
        doc.due(y, "write(10, 50, 0)", 20);
        doc.due(y, "written(10, 50, 1)", 1);
        doc.due(y, "write(10, 50, 1)", 30);
        doc.due(y, "written(10, 50, 10)", 0);
    }

    /** Each of eight writes to each other one, with a secret that it alone knows. */
    private static void writeByEach() {
        doc.sentence(0, "WRITE: one writes to another one at a minute");
        CardUnsigned x = Given.office(8);
        for (int one = 0; one < 8; one++) {
            x.mend(one, 5, 1 << one);
        }
        for (int ft = 0; ft <= 100; ft++) {
            boolean two = ft % 10 < 8 && ft < 80 && ft / 10 != ft % 10;
            doc.due(x, "write(" + ft + ", 50, 0)", two ? 100 * (ft / 10 + 1) : -1);
            doc.due(x, "written(" + ft + ", 50, 0)", two ? 1 : NONE);
            doc.due(x, "written(" + ft + ", 50, 1)", two ? 1 : NONE);
        }
    }

    private static void writeStamp() {
        doc.sentence(0, "STAMP 0, or 1 if it is in the office then");
        CardUnsigned x = Given.office(3);
        x.mend(1, 0, 20);
        x.mend(1, 1, 40);
        Given.law(x, "m");
        doc.due(x, "write(10, 19, 0)", -2);
        doc.due(x, "write(10, 20, 0)", 1);
        doc.due(x, "write(10, 40, 0)", 1);
        doc.due(x, "write(10, 41, 0)", -2);
        doc.due(x, "written(10, 40, 1)", 2);
        x.mend(1, 4, 1);
        Given.law(x, "l?1+m*20;1");
        doc.due(x, "written(10, 40, 0)", 21);
        doc.due(x, "written(10, 40, 1)", 22);
        x.mend(1, 4, 0);
        Given.law(x, "m");
        x.mend(2, 1, 39);
        doc.due(x, "written(10, 39, 1)", 2);
        doc.due(x, "written(10, 40, 1)", 1);
        doc.due(x, "write(20, 0, 1)", 1);
        doc.due(x, "write(20, 39, 1)", 1);
        doc.due(x, "write(20, 40, 1)", -2);
    }

    private static void writeOfLikeOnes() {
        doc.sentence(0, "that by which it is LIKELIEST (the greatest fraction), least likely (the least) for it: "
            + "100 times SECRET and 1, 10 times SHOWN and 1, and STAMP (of like ones the least;");
        CardUnsigned x = Given.office(3);
        x.mend(1, 5, 129);
        Given.law(x, "7");
        doc.due(x, "write(10, 50, 1)", 0);
        doc.due(x, "write(10, 50, 0)", 100);
        x.mend(2, 5, 129);
        doc.due(x, "write(10, 50, 0)", 0);
        Given.law(x, "h=2?1+m;9");
        doc.due(x, "write(10, 50, 0)", 30);
        doc.due(x, "write(10, 50, 1)", 20);
        Given.law(x, "h=2?3*(1+m);9*(1+m)");
        doc.due(x, "write(10, 50, 0)", 30);
        doc.due(x, "write(10, 50, 1)", 20);
        doc.due(x, "written(10, 50, 0)", 3);
        doc.due(x, "written(10, 50, 1)", 4);
    }

    private static void writeForNobody() {
        doc.sentence(0, "a way by which it COUNTS for nobody is none)");
        CardUnsigned x = Given.office(3);
        Given.law(x, "m*s");
        x.mend(2, 3, 1);
        for (int how = 0; how <= 1; how++) {
            doc.due(x, "write(10, 50, " + how + ")", 1);
            doc.due(x, "written(10, 50, " + 10 * how + ")", 0);
            doc.due(x, "written(10, 50, " + (10 * how + 1) + ")", 1);
            doc.due(x, "write(20, 50, " + how + ")", 1);
            doc.due(x, "written(20, 50, " + 10 * how + ")", 1);
        }
    }

    private static void writeNot() {
        doc.sentence(0, "NOT: (LIKELIEST, least likely alike) none COUNTS for anybody.");
        CardUnsigned x = Given.office(3);
        for (String text : new String[] {"0", "-5", "m*s", "l"}) {
            Given.law(x, text);
            for (int how = 0; how <= 1; how++) {
                doc.due(x, "write(10, 50, " + how + ")", -2);
                doc.due(x, "written(10, 50, " + 10 * how + ")", 0);
                doc.due(x, "written(10, 50, " + (10 * how + 1) + ")", 1);
            }
        }
    }

    private static void writeRefused() {
        doc.sentence(22, "(ft: 10 times who writes and whom TO, unlike) so as to be LIKELIEST (how 0), least likely (1): the way. BAD; NOT.");
        CardUnsigned x = Given.fullOffice();
        doc.refusedEach(x, "write(#, 50, 0)", -1, "-1", "-10", "0", "11", "77", "8", "9", "80", "87", "100", "MIN", "MAX");
        doc.refusedEach(x, "write(10, #, 1)", -1, "-1", "100", "MIN", "MAX");
        choicesRefused("write(10, 50, ", -1);
        doc.refused(new CardUnsigned(), "write(10, 0, 0)", -1);
        doc.refused(Given.office(1), "write(10, 0, 0)", -1);
        doc.refused(x, "write(70, 0, 0)", 0);
        doc.refused(x, "write(67, 99, 1)", 0);
        Given.law(x, "0");
        doc.refused(x, "write(70, 0, 0)", -2);
        doc.refused(x, "write(70, 0, 1)", -2);
    }

    private static void writeInLowestTerms() {
        doc.sentence(0, "as a fraction in lowest terms;");
        CardUnsigned x = Given.office(8);
        Given.law(x, "h=2?99;h=1?0;33");
        doc.due(x, "write(10, 50, 0)", 20);
        doc.due(x, "written(10, 50, 0)", 3);
        doc.due(x, "written(10, 50, 1)", 11);
        doc.due(x, "write(10, 50, 1)", 30);
        doc.due(x, "written(10, 50, 10)", 1);
        doc.due(x, "written(10, 50, 11)", 11);
        Given.law(x, "h=2?0;h=1?0;33");
        doc.due(x, "written(10, 50, 10)", 0);
        doc.due(x, "written(10, 50, 11)", 1);
    }

    private static void written() {
        doc.sentence(23, "That, as a fraction (hp: 10 times how, and part; NOT: 0 by 1). Long.MIN_VALUE: BAD.");
        CardUnsigned x = Given.office(3);
        long[] due = {5, 6, 1, 6};
        for (int how = 0; how <= 1; how++) {
            for (int part = 0; part <= 1; part++) {
                doc.due(x, "written(10, 50, " + (10 * how + part) + ")", due[2 * how + part]);
            }
        }
        doc.refusedEach(x, "written(10, 50, #)", NONE, "-1", "2", "9", "12", "20", "21", "100", "MIN", "MAX");
        doc.refusedEach(x, "written(#, 50, 0)", NONE, "-1", "0", "11", "3", "30", "MIN", "MAX");
        doc.refusedEach(x, "written(10, #, 0)", NONE, "-1", "100", "MIN", "MAX");
        Given.law(x, "0");
        for (int how = 0; how <= 1; how++) {
            doc.refused(x, "written(10, 50, " + 10 * how + ")", 0);
            doc.refused(x, "written(10, 50, " + (10 * how + 1) + ")", 1);
        }
    }
}
