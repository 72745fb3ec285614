/** Promises 24 to 29: looks, letters, hope, draws. */
public final class LooksTest {
    private static final Sentences doc = new Sentences();
    private static final long NONE = Sentences.NONE;
    private static final String[] NO_SHELVES = {"-1", "6", "MIN", "MAX"};

    public static void main(String[] args) {
        looks();
        looksRefused();
        looksOfOthers();
        looksMost();
        looksJudged();
        since();
        sinceRefused();
        sinceOfLikeOnes();
        judge();
        judgeNoneSuch();
        judgeLacking();
        judgeNobodyCould();
        judgeRefused();
        filled();
        filledNotSo();
        filledWraps();
        filledRefused();
        hope();
        hopeOfLikeOnes();
        hopeRefused();
        drawn();
        drawnWraps();
        drawnOfNobody();
        drawnTimes();
        drawnRefused();
        doc.end(24, 29);
    }

    /** Shelf 0 holds nothing, 1 a look, 2 a row of shorts, 3 of ints, 4 of longs, 5 of booleans. */
    private static CardUnsigned officeOfShelves(int people) {
        CardUnsigned x = Given.office(people);
        x.body(0);
        x.keep(1, 0);
        for (int shelf = 2; shelf <= 5; shelf++) {
            x.row(shelf, shelf - 1, 60);
        }
        return x;
    }

    private static void looks() {
        doc.sentence(24, "how often one (one 0 on), most (-1; NOT), JUDGED (-2; NOT).");
        CardUnsigned x = Given.office(3);
        Given.row(x, 0, 0, 2, 1, 1, 1, 2, 0);
        int[] times = {1, 3, 2};
        for (int one = 0; one < 3; one++) {
            doc.due(x, "looks(0, " + one + ")", times[one]);
        }
        doc.due(x, "looks(0, -1)", 1);
        doc.due(x, "looks(0, -2)", -2);
        x.row(0, 0, 0);
        for (int one = 0; one < 3; one++) {
            doc.due(x, "looks(0, " + one + ")", 0);
        }
        doc.due(x, "looks(0, -1)", -2);
        doc.due(x, "looks(0, -2)", -2);
        CardUnsigned y = Given.office(8);
        y.row(0, 0, 60);
        doc.due(y, "looks(0, 0)", 60);
        doc.due(y, "looks(0, 7)", 0);
    }

    private static void looksRefused() {
        doc.sentence(24, "LOOKS (no ROW of bytes: -12)");
        CardUnsigned x = officeOfShelves(2);
        for (int one = -2; one <= 1; one++) {
            doc.refused(x, "looks(0, " + one + ")", -11);
            for (int shelf = 1; shelf <= 5; shelf++) {
                doc.refused(x, "looks(" + shelf + ", " + one + ")", -12);
            }
            doc.refusedEach(x, "looks(#, " + one + ")", -1, NO_SHELVES);
        }
        x.row(3, 0, 5);
        for (String one : new String[] {"2", "7", "8", "-3", "MIN", "MAX"}) {
            for (int shelf = 0; shelf <= 3; shelf++) {
                doc.refused(x, "looks(" + shelf + ", " + one + ")", -1);
            }
        }
        CardUnsigned y = new CardUnsigned();
        y.row(0, 0, 5);
        doc.refused(y, "looks(0, 0)", -1);
        doc.due(y, "looks(0, -1)", -2);
    }

    private static void looksOfOthers() {
        doc.sentence(0, "minute by minute (from 0 on) who looked up (others: nobody): how often one did");
        CardUnsigned x = Given.office(3);
        Given.row(x, 0, 0, 3, 3, -1, -128, 127, 8, 3);
        doc.due(x, "looks(0, 2)", 0);
        doc.due(x, "looks(0, -1)", -2);
        doc.due(x, "looks(0, -2)", -2);
        doc.due(x, "since(0, 3)", -2);
        x.person(0);
        doc.due(x, "looks(0, 3)", 3);
        doc.due(x, "looks(0, -1)", 3);
        x.mend(3, 0, 6);
        doc.due(x, "looks(0, -2)", 0);
    }

    private static void looksMost() {
        doc.sentence(0, "who did most (of like ones the least; NOT)");
        CardUnsigned x = Given.office(8);
        Given.row(x, 0, 0, 7, 6, 9, 9, 9, 6, 7);
        doc.due(x, "looks(0, -1)", 6);
        Given.row(x, 0, 0, 7, 6, 7);
        doc.due(x, "looks(0, -1)", 7);
        Given.row(x, 0, 0, 7, 0);
        doc.due(x, "looks(0, -1)", 0);
        Given.row(x, 0, 0, 9);
        doc.due(x, "looks(0, -1)", -2);
    }

    private static void looksJudged() {
        doc.sentence(0, "JUDGED: the first minute (to 99) at which one looked who was not in the office (beyond minute 99, too); NOT.");
        CardUnsigned x = Given.office(3);
        Given.row(x, 0, 0, 2, 1, 9, 9, 1, 2, 0);
        doc.due(x, "looks(0, -2)", -2);
        x.mend(1, 0, 2);
        doc.due(x, "looks(0, -2)", 1);
        x.mend(1, 0, 1);
        doc.due(x, "looks(0, -2)", -2);
        x.mend(1, 1, 4);
        doc.due(x, "looks(0, -2)", -2);
        x.mend(1, 1, 3);
        doc.due(x, "looks(0, -2)", 4);
        x.mend(2, 0, 1);
        doc.due(x, "looks(0, -2)", 0);
        CardUnsigned y = Given.office(1);
        y.row(0, 0, 60);
        doc.due(y, "looks(0, -2)", -2);
        y.mend(0, 1, 58);
        doc.due(y, "looks(0, -2)", 59);
    }

    private static void since() {
        doc.sentence(0, "SINCE: of the minutes from m (0 .. 99) on: who looked up oftener than ahead of it by most");
        CardUnsigned x = Given.office(3);
        Given.row(x, 0, 0, 0, 0, 1, 2, 0, 1, 1, 2, 2, 7);
        int[] due = {0, 1, 1, 2, 1, 1, 2, 2, -2, -2, -2};
        for (int m = 0; m <= 10; m++) {
            doc.due(x, "since(0, " + m + ")", due[m]);
        }
        doc.due(x, "since(0, 60)", -2);
        doc.due(x, "since(0, 99)", -2);
        CardUnsigned y = Given.office(8);
        y.row(0, 0, 60);
        y.put(0, 59, 7);
        doc.due(y, "since(0, 59)", 7);
        doc.due(y, "since(0, 60)", -2);
    }

    private static void sinceRefused() {
        doc.sentence(0, "looks, letters (on SHELVES: BAD, -11, -12)");
        CardUnsigned x = officeOfShelves(2);
        for (int m = 0; m <= 99; m += 99) {
            doc.refused(x, "since(0, " + m + ")", -11);
            for (int shelf = 1; shelf <= 5; shelf++) {
                doc.refused(x, "since(" + shelf + ", " + m + ")", -12);
            }
            doc.refusedEach(x, "since(#, " + m + ")", -1, NO_SHELVES);
        }
        x.row(3, 0, 60);
        for (String m : new String[] {"-1", "100", "MIN", "MAX"}) {
            for (int shelf = 0; shelf <= 3; shelf++) {
                doc.refused(x, "since(" + shelf + ", " + m + ")", -1);
            }
        }
    }

    private static void sinceOfLikeOnes() {
        doc.sentence(25, "SINCE. NOT.");
        doc.due(sinceNobody(), "since(0, 0)", -2);
        doc.sentence(0, "oftener than ahead of it by most (of like ones the least; NOT: nobody did)");
        CardUnsigned x = Given.office(8);
        Given.row(x, 0, 0, 7, 6, 7, 6, 6, 7, 9, 9, 9);
        doc.due(x, "since(0, 2)", 6);
        doc.due(x, "since(0, 3)", 6);
        doc.due(x, "since(0, 1)", 6);
        doc.due(x, "since(0, 5)", -2);
        doc.due(x, "since(0, 6)", -2);
        Given.row(x, 0, 0, 6, 7, 6, 7);
        doc.due(x, "since(0, 2)", -2);
        doc.due(x, "since(0, 0)", 6);
        doc.due(sinceNobody(), "since(0, 99)", -2);
    }

    private static CardUnsigned sinceNobody() {
        CardUnsigned x = Given.office(8);
        x.row(0, 0, 0);
        return x;
    }

    /** Three people; the first card is to the first one; the second to the second one, with a secret. */
    private static CardUnsigned officeOfCards() {
        CardUnsigned x = Given.office(3);
        x.card(0, 20);
        x.card(100, 300);
        return x;
    }

    /** The row of letters is judged so, and where it is not all as it can be, it is filled in no way. */
    private static void letters(CardUnsigned x, int want, int... letters) {
        Given.row(x, 0, 1, letters);
        doc.due(x, "judge(0)", want);
        if (want != -2) {
            doc.due(x, "filled(0, 0)", 0);
            doc.due(x, "filled(0, 1)", 0);
        }
    }

    private static void judge() {
        doc.sentence(0, "by twos a CARD, one of PEOPLE or -1 (not known): JUDGED: the first two that cannot be");
        CardUnsigned x = officeOfCards();
        letters(x, -2);
        letters(x, -2, 0, 1);
        letters(x, -2, 0, 1, 0, 2, 0, -1, 0, 1);
        letters(x, 0, 0, 0);
        letters(x, 1, 0, 1, 0, 0, 0, 0);
        letters(x, 2, 0, 1, 0, -1, 1, 2, 0, 1);
        x.mend(2, 5, 4);
        letters(x, -2, 0, 1, 0, -1, 1, 2, 0, 1);
        int[] row = new int[60];
        for (int i = 1; i < 60; i += 2) {
            row[i] = 1;
        }
        letters(x, -2, row);
        row[59] = 0;
        letters(x, 29, row);
    }

    private static void judgeNoneSuch() {
        doc.sentence(0, "JUDGED: the first two that cannot be (none such, lacking, too); NOT.");
        CardUnsigned x = officeOfCards();
        for (int card : new int[] {-1, -2, 2, 6, 256, 32767, -32768}) {
            letters(x, 1, 0, 1, card, 1);
            letters(x, 1, 0, 1, card, -1);
        }
        for (int one : new int[] {-2, 3, 8, 32, 33, 256, 32767, -32768}) {
            letters(x, 1, 0, 1, 0, one);
        }
        letters(x, 0, 2, 1, 0, 1);
        x.card(0, 0);
        letters(x, -2, 2, 1, 0, 1);
        x.person(0);
        letters(x, -2, 2, 3, 0, 3);
    }

    private static void judgeLacking() {
        doc.sentence(0, "(none such, lacking, too)");
        CardUnsigned x = officeOfCards();
        letters(x, 0, 0);
        letters(x, 0, -1);
        letters(x, 1, 0, 1, 0);
        letters(x, 2, 0, 1, 0, -1, 0);
        x.mend(0, 5, 4);
        letters(x, -2, 1, 0);
        letters(x, 0, 1);
        letters(x, 1, 1, 0, 1);
        x.row(0, 1, 59);
        for (int i = 1; i < 59; i += 2) {
            x.put(0, i, -1);
        }
        doc.due(x, "judge(0)", 29);
        doc.due(x, "filled(0, 0)", 0);
        doc.due(x, "filled(0, 1)", 0);
    }

    private static void judgeNobodyCould() {
        doc.sentence(0, "by twos a CARD, one of PEOPLE or -1 (not known)");
        CardUnsigned x = officeOfCards();
        letters(x, 1, 0, -1, 1, -1);
        x.mend(1, 5, 4);
        letters(x, 1, 0, -1, 1, -1);
        x.mend(2, 5, 4);
        letters(x, -2, 0, -1, 1, -1);
        doc.due(x, "filled(0, 0)", 2);
    }

    private static void judgeRefused() {
        doc.sentence(26, "LETTERS (no ROW of shorts: -12): JUDGED. NOT.");
        CardUnsigned x = officeOfShelves(2);
        x.row(2, 0, 60);
        doc.refused(x, "judge(0)", -11);
        for (int shelf = 1; shelf <= 5; shelf++) {
            doc.refused(x, "judge(" + shelf + ")", -12);
        }
        doc.refusedEach(x, "judge(#)", -1, NO_SHELVES);
        x.row(2, 1, 0);
        doc.due(x, "judge(2)", -2);
    }

    private static void filled() {
        doc.sentence(0, "together: the product of what all two COUNT, unknown ones by all for whom they do");
        CardUnsigned x = officeOfCards();
        Given.row(x, 0, 1, 0, 1, 0, 2, 0, -1);
        doc.due(x, "filled(0, 0)", 2);
        doc.due(x, "filled(0, 1)", 10 * 2 * 12);
        x.row(0, 1, 0);
        doc.due(x, "filled(0, 0)", 1);
        doc.due(x, "filled(0, 1)", 1);
        Given.law(x, "s");
        Given.row(x, 0, 1, 0, 1, 0, -1);
        doc.due(x, "filled(0, 0)", 2);
        doc.due(x, "filled(0, 1)", 0);
        x.mend(1, 3, 9);
        doc.due(x, "filled(0, 1)", 81);
    }

    private static void filledNotSo() {
        doc.sentence(0, "FILLED: in how many ways -1 can be filled so that each two can be (those not so: 0)");
        CardUnsigned x = officeOfCards();
        letters(x, 0, 0, 0, 0, -1);
        letters(x, 1, 0, -1, 0, 0);
        letters(x, 1, 0, -1, 2, 1);
        letters(x, 1, 0, -1, 0, 3);
        letters(x, 1, 0, -1, 0);
        letters(x, 1, 0, -1, 1, -1);
        letters(x, -2, 0, -1, 0, -1, 0, -1);
        doc.due(x, "filled(0, 0)", 8);
        doc.due(x, "filled(0, 1)", 12 * 12 * 12);
    }

    private static void filledWraps() {
        doc.sentence(0, "unknown ones by all for whom they do (a long that wraps)");
        CardUnsigned x = Given.fullOffice();
        int[] row = new int[60];
        for (int i = 1; i < 60; i += 2) {
            row[i] = -1;
        }
        Given.row(x, 0, 1, row);
        long ways = 1;
        long together = 1;
        for (int i = 0; i < 30; i++) {
            ways *= 7;
            together *= 84;
        }
        doc.due(x, "filled(0, 0)", ways);
        doc.due(x, "filled(0, 1)", together);
        Given.law(x, "64");
        for (int i = 1; i < 60; i += 2) {
            x.put(0, i, 1);
        }
        doc.due(x, "filled(0, 0)", 1);
        doc.due(x, "filled(0, 1)", 0);
        Given.law(x, "99");
        together = 1;
        for (int i = 0; i < 30; i++) {
            together *= 99;
        }
        doc.due(x, "filled(0, 1)", together);
    }

    private static void filledRefused() {
        doc.sentence(27, "FILLED: ways (what 0), together (1). Long.MIN_VALUE: BAD, no ROW of shorts.");
        CardUnsigned x = officeOfShelves(2);
        x.row(2, 0, 60);
        for (int what = 0; what <= 1; what++) {
            for (int shelf = 0; shelf <= 5; shelf++) {
                doc.refused(x, "filled(" + shelf + ", " + what + ")", NONE);
            }
            doc.refusedEach(x, "filled(#, " + what + ")", NONE, NO_SHELVES);
        }
        x.row(2, 1, 0);
        doc.refusedEach(x, "filled(2, #)", NONE, "-1", "2", "MIN", "MAX");
        doc.due(x, "filled(2, 1)", 1);
    }

    private static void hope() {
        doc.sentence(0, "how LIKELY that is less that of the LIKELIEST of all: in millionths (cut; 0 or less).");
        CardUnsigned x = Given.office(4);
        x.card(0, 30);
        x.mend(0, 4, 2);
        doc.due(x, "hope(0, 1)", -571428);
        x.mend(0, 4, 14);
        doc.due(x, "hope(0, 1)", 0);
        Given.law(x, "h=2?99;1");
        x.mend(0, 4, 8);
        doc.due(x, "hope(0, 1)", -970297);
        x.mend(0, 7, 1);
        doc.due(x, "hope(0, 1)", -970297);
        x.mend(0, 7, 3);
        doc.due(x, "hope(0, 1)", 0);
        CardUnsigned y = Given.fullOffice();
        Given.law(y, "99-s");
        y.mend(7, 3, 1);
        y.mend(0, 4, 128);
        doc.due(y, "hope(0, 0)", 7);
        doc.due(y, "hope(0, 1)", -1000000 / 692);
    }

    private static void hopeOfLikeOnes() {
        doc.sentence(0, "of PEOPLE it LIKES for whom a CARD TO it COUNTS above 0 the LIKELIEST (of like ones the least; NOT)");
        CardUnsigned x = Given.office(4);
        x.card(0, 30);
        doc.due(x, "hope(0, 0)", -2);
        x.mend(0, 4, 1);
        doc.due(x, "hope(0, 0)", -2);
        x.mend(0, 4, 240);
        doc.due(x, "hope(0, 0)", -2);
        x.mend(0, 4, 8 + 2 + 128);
        doc.due(x, "hope(0, 0)", 1);
        x.mend(0, 4, 14);
        doc.due(x, "hope(0, 0)", 2);
        Given.law(x, "s");
        doc.due(x, "hope(0, 0)", -2);
        x.mend(3, 3, 1);
        doc.due(x, "hope(0, 0)", 3);
        x.mend(0, 4, 6);
        doc.due(x, "hope(0, 0)", -2);
        x.mend(1, 4, 15);
        x.card(100, 0);
        doc.due(x, "hope(1, 0)", 3);
    }

    private static void hopeRefused() {
        doc.sentence(28, "HOPE of whom a CARD is TO: who (what 0; NOT), how LIKELY less (1; 0, if NOT). BAD.");
        CardUnsigned x = Given.fullOffice();
        doc.due(x, "hope(5, 0)", -2);
        doc.due(x, "hope(5, 1)", 0);
        x.mend(0, 4, 255);
        doc.due(x, "hope(5, 0)", 1);
        Given.law(x, "0");
        doc.due(x, "hope(5, 0)", -2);
        doc.due(x, "hope(5, 1)", 0);
        doc.refusedEach(x, "hope(5, #)", -1, "-1", "2", "MIN", "MAX");
        for (String card : new String[] {"-1", "6", "MIN", "MAX"}) {
            doc.refused(x, "hope(" + card + ", 0)", -1);
            doc.refused(x, "hope(" + card + ", 1)", -1);
        }
        doc.refused(new CardUnsigned(), "hope(0, 0)", -1);
    }

    private static void drawn() {
        doc.sentence(0, "the CARD is by whom (z >>> 8) % (what it COUNTS for all) comes to, by numbers");
        CardUnsigned x = Given.office(3);
        x.card(100, 10);
        int[] times = new int[3];
        int z = -77;
        for (int i = 1; i <= 50; i++) {
            z = z * 1103515245 + 12345;
            times[(z >>> 8) % 12 < 10 ? 0 : 2]++;
            for (int one = 0; one < 3; one++) {
                doc.due(x, "drawn(0, -77, " + i + ", " + one + ")", times[one]);
            }
            doc.due(x, "drawn(0, -77, " + i + ", -1)", Math.max(times[0], times[2]));
        }
    }

    private static void drawnWraps() {
        doc.sentence(0, "z = z * 1103515245 + 12345 (an int; SEED at first) ahead of each");
        CardUnsigned x = Given.fullOffice();
        for (int seed : new int[] {Integer.MIN_VALUE, Integer.MAX_VALUE, -1, 0, 1}) {
            int z = seed * 1103515245 + 12345;
            int who = 1 + (z >>> 8) % 84 / 12;
            for (int one = 0; one < 8; one++) {
                doc.due(x, "drawn(5, " + seed + ", 1, " + one + ")", one == who ? 1 : 0);
            }
            doc.due(x, "drawn(5, " + seed + ", 1, -1)", 1);
        }
    }

    private static void drawnOfNobody() {
        doc.sentence(0, "(it COUNTS for nobody: nothing): how often one; the most often any.");
        CardUnsigned x = Given.fullOffice();
        Given.law(x, "0");
        for (int one = -1; one < 8; one++) {
            doc.due(x, "drawn(0, 5, 50, " + one + ")", 0);
        }
        Given.law(x, "s");
        x.mend(7, 3, 1);
        doc.due(x, "drawn(0, 5, 50, 7)", 50);
        doc.due(x, "drawn(0, 5, 50, -1)", 50);
        doc.due(x, "drawn(0, 5, 50, 0)", 0);
    }

    private static void drawnTimes() {
        doc.sentence(0, "DRAWN: n times (1 .. 50) by a SEED");
        CardUnsigned x = Given.office(2);
        x.card(0, 0);
        for (int n = 1; n <= 50; n++) {
            doc.due(x, "drawn(0, 9, " + n + ", 1)", n);
            doc.due(x, "drawn(0, 9, " + n + ", -1)", n);
        }
        doc.refused(x, "drawn(0, 9, 51, 1)", -1);
        doc.refused(x, "drawn(0, 9, 0, 1)", -1);
    }

    private static void drawnRefused() {
        doc.sentence(29, "DRAWN: how often one (one 0 on), the most often any (-1). BAD.");
        CardUnsigned x = Given.fullOffice();
        doc.refusedEach(x, "drawn(0, 0, #, 0)", -1, "0", "51", "-1", "MIN", "MAX");
        doc.refusedEach(x, "drawn(0, 0, 1, #)", -1, "-2", "8", "MIN", "MAX");
        doc.refusedEach(x, "drawn(#, 0, 1, 0)", -1, "-1", "6", "MIN", "MAX");
        doc.refused(new CardUnsigned(), "drawn(0, 0, 1, -1)", -1);
        CardUnsigned y = Given.office(7);
        y.card(0, 0);
        doc.refused(y, "drawn(0, 0, 1, 7)", -1);
        doc.due(y, "drawn(0, 0, 1, -1)", 1);
    }
}
