/** Promises 24 to 29: looks, letters, hope, draws. */
public final class LooksTest {
    private static final Check check = new Check();
    private static final long NONE = Long.MIN_VALUE;

    public static void main(String[] args) {
        looks();
        since();
        letters();
        filledWraps();
        hope();
        drawn();
        check.end();
    }

    /** What all calls on shelves refuse alike. */
    private static void refusals() {
        CardUnsigned x = Given.office(1);
        x.body(0);
        x.keep(1, 0);
        x.row(2, 0, 4);
        x.row(3, 1, 4);
        int[] looks = {-11, -12, -2, -12, -11, -11};
        int[] judge = {-11, -12, -12, -2, -11, -11};
        x.card(0, 0);
        x.row(3, 1, 0);
        for (int shelf = 0; shelf < 6; shelf++) {
            check.due(24, "looks(" + shelf + ", -2)", x.looks(shelf, -2), looks[shelf]);
            check.due(25, "since(" + shelf + ", 99)", x.since(shelf, 99), looks[shelf]);
            check.due(26, "judge(" + shelf + ")", x.judge(shelf), judge[shelf]);
            check.due(27, "filled(" + shelf + ", 0)", x.filled(shelf, 0), shelf == 3 ? 1 : NONE);
            check.due(24, "looks, BAD first", x.looks(shelf, 1), -1);
            check.due(25, "since, BAD first", x.since(shelf, 100), -1);
            check.due(25, "since, BAD first", x.since(shelf, -1), -1);
            check.due(27, "filled, what 2", x.filled(shelf, 2), NONE);
        }
        for (int shelf = -1; shelf <= 6; shelf += 7) {
            check.due(24, "looks(" + shelf + ", -1)", x.looks(shelf, -1), -1);
            check.due(25, "since(" + shelf + ", 0)", x.since(shelf, 0), -1);
            check.due(26, "judge(" + shelf + ")", x.judge(shelf), -1);
            check.due(27, "filled(" + shelf + ", 0)", x.filled(shelf, 0), NONE);
        }
    }

    private static void looks() {
        refusals();
        CardUnsigned x = Given.office(3);
        Given.row(x, 0, 0, 2, 1, 3, -1, 1, 2, 0, 127, -128);
        check.due(24, "how often 0", x.looks(0, 0), 1);
        check.due(24, "how often 1", x.looks(0, 1), 2);
        check.due(24, "how often 2", x.looks(0, 2), 2);
        check.due(24, "3 is not one", x.looks(0, 3), -1);
        check.due(24, "-3", x.looks(0, -3), -1);
        check.due(24, "most", x.looks(0, -1), 1);
        check.due(24, "judged", x.looks(0, -2), -2);
        x.mend(1, 0, 2);
        check.due(24, "judged, not yet in", x.looks(0, -2), 1);
        x.mend(1, 0, 1);
        x.mend(1, 1, 4);
        check.due(24, "judged, in both", x.looks(0, -2), -2);
        x.mend(2, 1, 4);
        check.due(24, "judged, no more in", x.looks(0, -2), 5);
        Given.row(x, 0, 0, 3, -1, 9);
        check.due(24, "nobody", x.looks(0, -1), -2);
    }

    private static void since() {
        CardUnsigned x = Given.office(3);
        Given.row(x, 0, 0, 0, 0, 1, 2, 0, 1, 1, 2, 2, 7);
        check.due(25, "from 0 on", x.since(0, 0), 0);
        check.due(25, "from 2 on", x.since(0, 2), 1);
        check.due(25, "from 3 on", x.since(0, 3), 2);
        check.due(25, "from 6 on", x.since(0, 6), 2);
        check.due(25, "from 8 on", x.since(0, 8), -2);
        check.due(25, "from 99 on", x.since(0, 99), -2);
    }

    private static void letters() {
        CardUnsigned x = Given.office(3);
        x.card(0, 20);
        x.card(100, 300);
        Given.row(x, 0, 1, 0, 1, 0, 2, 0, -1);
        check.due(26, "all can be", x.judge(0), -2);
        check.due(27, "ways", x.filled(0, 0), 2);
        check.due(27, "together", x.filled(0, 1), 10 * 2 * 12);
        Given.row(x, 0, 1, 0, 1, 0, 0, 0, -1);
        check.due(26, "by whom it is to", x.judge(0), 1);
        check.due(27, "ways", x.filled(0, 0), 0);
        check.due(27, "together", x.filled(0, 1), 0);
        Given.row(x, 0, 1, 0, 1, 2, 1);
        check.due(26, "no such card", x.judge(0), 1);
        check.due(27, "together", x.filled(0, 1), 0);
        Given.row(x, 0, 1, -1, 1);
        check.due(26, "no such card", x.judge(0), 0);
        Given.row(x, 0, 1, 0, 3);
        check.due(26, "no such one", x.judge(0), 0);
        Given.row(x, 0, 1, 0, -2);
        check.due(26, "no such one", x.judge(0), 0);
        Given.row(x, 0, 1, 0, 1, 0, 2, 0);
        check.due(26, "the one is lacking", x.judge(0), 2);
        check.due(27, "lacking, ways", x.filled(0, 0), 0);
        check.due(27, "lacking, together", x.filled(0, 1), 0);
        Given.row(x, 0, 1, 0, -1, 1, -1);
        check.due(26, "nobody could", x.judge(0), 1);
        check.due(27, "nobody could", x.filled(0, 0), 0);
        check.due(27, "nobody could", x.filled(0, 1), 0);
        x.mend(2, 5, 4);
        check.due(26, "one could", x.judge(0), -2);
        check.due(27, "one could", x.filled(0, 0), 2);
        check.due(27, "one could", x.filled(0, 1), 12 * 12);
        Given.law(x, "0");
        check.due(27, "all can be, but count nothing", x.filled(0, 0), 2);
        check.due(27, "all can be, but count nothing", x.filled(0, 1), 0);
    }

    private static void filledWraps() {
        CardUnsigned x = Given.office(8);
        x.card(0, 0);
        int[] row = new int[60];
        for (int i = 1; i < 60; i += 2) {
            row[i] = -1;
        }
        Given.row(x, 0, 1, row);
        long ways = 1;
        long together = 1;
        for (int i = 0; i < 30; i++) {
            ways *= 7;
            together *= 84;
        }
        check.due(27, "ways that wrap", x.filled(0, 0), ways);
        check.due(27, "together, wraps", x.filled(0, 1), together);
    }

    private static void hope() {
        CardUnsigned x = Given.office(4);
        x.card(0, 30);
        check.due(28, "likes nobody", x.hope(0, 0), -2);
        check.due(28, "likes nobody, less", x.hope(0, 1), 0);
        x.mend(0, 4, 1);
        check.due(28, "likes itself", x.hope(0, 0), -2);
        x.mend(0, 4, 2 + 8 + 128);
        check.due(28, "of like ones the least", x.hope(0, 0), 1);
        check.due(28, "1 by 7 less 5 by 7", x.hope(0, 1), -571428);
        x.mend(0, 4, 14);
        check.due(28, "the likeliest of all", x.hope(0, 0), 2);
        check.due(28, "the likeliest of all, less", x.hope(0, 1), 0);
        check.due(28, "what 2", x.hope(0, 2), -1);
        check.due(28, "card 1", x.hope(1, 0), -1);
        Given.law(x, "h");
        x.mend(0, 4, 2);
        check.due(28, "counts 0", x.hope(0, 0), -2);
        check.due(28, "counts 0, less", x.hope(0, 1), 0);
    }

    private static void drawn() {
        CardUnsigned x = Given.office(3);
        x.card(100, 10);
        int[] times = new int[3];
        int z = -77;
        for (int i = 0; i < 50; i++) {
            z = z * 1103515245 + 12345;
            times[(z >>> 8) % 12 < 10 ? 0 : 2]++;
        }
        for (int one = 0; one < 3; one++) {
            check.due(29, "how often " + one, x.drawn(0, -77, 50, one), times[one]);
        }
        check.due(29, "the most", x.drawn(0, -77, 50, -1), Math.max(times[0], times[2]));
        check.due(29, "once", x.drawn(0, 0, 1, -1), 1);
        check.due(29, "n 0", x.drawn(0, 0, 0, 0), -1);
        check.due(29, "n 51", x.drawn(0, 0, 51, 0), -1);
        check.due(29, "one 3", x.drawn(0, 0, 1, 3), -1);
        check.due(29, "one -2", x.drawn(0, 0, 1, -2), -1);
        check.due(29, "card 1", x.drawn(1, 0, 1, 0), -1);
        Given.law(x, "0");
        check.due(29, "for nobody", x.drawn(0, 5, 9, 0), 0);
        check.due(29, "for nobody, the most", x.drawn(0, 5, 9, -1), 0);
    }
}
