/** Promises 38 to 47: acts, shelves, counts. */
public final class ActsTest {
    private static final Sentences doc = new Sentences();
    private static final long NONE = Sentences.NONE;
    private static final int[] ABOVE = {-1, 0, 0, 2, 1, 3, 0, 4};
    private static final String[] NO_SHELVES = {"-1", "6", "MIN", "MAX"};

    public static void main(String[] args) {
        body();
        bodyFull();
        act();
        actByNumbers();
        actWraps();
        actOfNone();
        trace();
        traceKept();
        traceRefused();
        keep();
        keepRefused();
        row();
        rowRefused();
        nothingAtFirst();
        put();
        putRefused();
        lowestBits();
        element();
        shift();
        shiftAsTheyWere();
        shiftNothing();
        shiftOfAnotherKind();
        shiftNoPlace();
        shiftBad();
        taken();
        takenRefused();
        count();
        countRan();
        doc.end(38, 47);
    }

    private static void body() {
        doc.sentence(38, "A LOOK of a KIND (0 .. 7) is kept: its number.");
        CardUnsigned x = new CardUnsigned();
        for (int i = 0; i < 50; i++) {
            doc.due(x, "body(" + i % 8 + ")", i);
            doc.due(x, "count(4)", i + 1);
        }
        doc.due(x, "keep(0, 49)", 1);
        doc.due(x, "taken(0, 0)", 1);
        doc.due(x, "act(49, 2, 0)", 49);
    }

    private static void bodyFull() {
        doc.sentence(0, "LOOKS' ways are kept by call as BODIES 0 .. 49");
        CardUnsigned x = new CardUnsigned();
        doc.refusedEach(x, "body(#)", -1, "-1", "8", "MIN", "MAX");
        for (int i = 0; i < 50; i++) {
            doc.due(x, "body(7)", i);
        }
        doc.sentence(38, "BAD, FULL.");
        doc.refused(x, "body(0)", -3);
        doc.refused(x, "body(7)", -3);
        doc.refused(x, "body(8)", -1);
        doc.refused(x, "body(-1)", -1);
        doc.due(x, "count(4)", 50);
    }

    /** Worked out by hand from the document, for n = 7 and x = 5. */
    private static void act() {
        doc.sentence(39, "An ACT (0 .. 3) of a LOOK with x.");
        int[][] due = {
            {12, 24, 2, 24 - 6},
            {15, 30, 2, 30 - 6},
            {12, -24, 2, -24 - 6},
            {12, -26, 6, -26 - 18},
            {15, 30, 2 - 12, 30 - (6 - 12)},
            {12, -26, 6, -44 ^ 5},
            {24, 48, 2, 48 - 6},
            {15, 30 + (5 - 12), 2 - 12, 23 - (6 - 12) - 1}
        };
        for (int kind = 0; kind < 8; kind++) {
            CardUnsigned x = new CardUnsigned();
            for (int i = 0; i < 7; i++) {
                x.body(0);
            }
            x.body(kind);
            for (int act = 0; act < 4; act++) {
                doc.due(x, "act(7, " + act + ", 5)", due[kind][act]);
            }
        }
    }

    private static void actByNumbers() {
        doc.sentence(0, "n its number");
        CardUnsigned x = new CardUnsigned();
        for (int i = 0; i < 50; i++) {
            x.body(0);
            doc.due(x, "act(" + i + ", 0, 100)", 100 + i);
            doc.due(x, "act(" + i + ", 2, 64)", 64 + i);
        }
    }

    private static void actWraps() {
        doc.sentence(0, "ACTS with x (an int that wraps)");
        CardUnsigned x = new CardUnsigned();
        for (int kind : new int[] {0, 0, 1, 3, 6, 5, 7}) {
            x.body(kind);
        }
        int max = Integer.MAX_VALUE;
        int min = Integer.MIN_VALUE;
        doc.due(x, "act(0, 0, MAX)", max);
        doc.due(x, "act(1, 0, MAX)", min);
        doc.due(x, "act(0, 1, MAX)", -2);
        doc.due(x, "act(0, 1, MIN)", 0);
        doc.due(x, "act(1, 2, MIN)", min + 1);
        doc.due(x, "act(1, 3, MIN)", 2);
        doc.due(x, "act(2, 0, MAX)", min + 4);
        doc.due(x, "act(3, 1, MAX)", -6);
        doc.due(x, "act(3, 2, MAX)", (max - 3) * 3);
        doc.due(x, "act(4, 0, MAX)", 6);
        doc.due(x, "act(5, 3, MAX)", -10 - 12 ^ 5);
        doc.due(x, "act(6, 1, MIN)", 18 + (4 - 11));
        doc.due(x, "act(6, 2, MAX)", max - 6 - 11);
        doc.due(x, "act(6, 2, MIN)", max - 4);
    }

    private static void actOfNone() {
        doc.sentence(39, "0, and no TRACE then: no such LOOK, ACT.");
        CardUnsigned x = new CardUnsigned();
        doc.due(x, "act(0, 0, 5)", 0);
        for (int kind = 0; kind < 8; kind++) {
            x.body(kind);
        }
        for (String none : new String[] {"8, 0", "50, 0", "-1, 0", "MIN, 0", "MAX, 0", "0, 4", "0, -1", "0, MIN", "0, MAX", "8, 4"}) {
            x.act(7, 3, 5);
            doc.due(x, "count(5)", 14);
            doc.due(x, "act(" + none + ", 5)", 0);
            doc.due(x, "count(5)", 0);
            doc.due(x, "trace(0)", -1);
        }
    }

    private static void traced(CardUnsigned x, int... due) {
        doc.due(x, "count(5)", due.length);
        for (int i = 0; i < due.length; i++) {
            doc.due(x, "trace(" + i + ")", due[i]);
        }
        doc.due(x, "trace(" + due.length + ")", -1);
    }

    private static void trace() {
        doc.sentence(0, "looks(..) and so on: the body of its own KIND, or of the next KIND above that has one; "
            + "super: from the KIND above the body's on. THE TRACE: numbers of the bodies that ran in the latest act(), as they began");
        int[][][] due = {
            {{1}, {10, 1}, {11}, {2, 10, 1, 11}},
            {{20, 1}, {10, 20, 1}, {11}, {2, 10, 20, 1, 11}},
            {{1}, {30, 10, 1}, {11}, {2, 30, 10, 1, 11}},
            {{1}, {41, 30, 10, 1}, {40, 11}, {2, 41, 30, 10, 1, 40, 11}},
            {{20, 1}, {10, 20, 1}, {50, 11, 20, 1}, {2, 10, 20, 1, 50, 11, 20, 1}},
            {{1}, {41, 30, 10, 1}, {40, 11}, {60, 2, 41, 30, 10, 1, 40, 11}},
            {{70, 1}, {10, 70, 1}, {11}, {2, 10, 70, 1, 11}},
            {{20, 1}, {80, 10, 20, 1, 50, 11, 20, 1}, {50, 11, 20, 1},
                {81, 2, 80, 10, 20, 1, 50, 11, 20, 1, 50, 11, 20, 1}}
        };
        CardUnsigned x = new CardUnsigned();
        for (int kind = 0; kind < 8; kind++) {
            x.body(kind);
            for (int act = 3; act >= 0; act--) {
                x.act(kind, act, 1);
                traced(x, due[kind][act]);
            }
        }
    }

    /** No act of the document's runs more than 14 bodies, so all of them are kept. */
    private static void traceKept() {
        doc.sentence(0, "the first 24 are kept");
        CardUnsigned x = new CardUnsigned();
        x.body(7);
        x.act(0, 3, 1);
        doc.due(x, "trace(0)", 81);
        doc.due(x, "trace(13)", 1);
        doc.due(x, "trace(14)", -1);
        doc.due(x, "trace(23)", -1);
        doc.due(x, "trace(24)", -1);
        x.body(6);
        doc.due(x, "trace(13)", 1);
        x.keep(0, 0);
        x.taken(0, 7);
        doc.due(x, "count(5)", 14);
    }

    private static void traceRefused() {
        doc.sentence(40, "THE TRACE's i-th body. BAD.");
        CardUnsigned x = new CardUnsigned();
        doc.refused(x, "trace(0)", -1);
        x.body(1);
        doc.refused(x, "trace(0)", -1);
        x.act(0, 0, 1);
        doc.due(x, "trace(0)", 20);
        doc.due(x, "trace(1)", 1);
        doc.refusedEach(x, "trace(#)", -1, "-1", "2", "23", "24", "MIN", "MAX");
    }

    private static void keep() {
        doc.sentence(41, "A SHELF holds nothing (body -1), or a LOOK: 1.");
        CardUnsigned x = new CardUnsigned();
        x.body(0);
        x.body(5);
        for (int shelf = 0; shelf <= 5; shelf++) {
            doc.due(x, "keep(" + shelf + ", -1)", 1);
            doc.due(x, "put(" + shelf + ", 0, 0)", -11);
            doc.due(x, "keep(" + shelf + ", 1)", 1);
            doc.due(x, "taken(" + shelf + ", 0)", 5);
            doc.due(x, "put(" + shelf + ", 0, 0)", -12);
            doc.due(x, "keep(" + shelf + ", 0)", 1);
            doc.due(x, "taken(" + shelf + ", 0)", 0);
            doc.due(x, "keep(" + shelf + ", -1)", 1);
            doc.due(x, "taken(" + shelf + ", 0)", -11);
            doc.due(x, "row(" + shelf + ", 0, 5)", 1);
            doc.due(x, "keep(" + shelf + ", 0)", 1);
            doc.due(x, "put(" + shelf + ", 0, 0)", -12);
        }
        doc.due(x, "keep(5, -1)", 1);
        doc.due(x, "taken(4, 0)", 0);
    }

    private static void keepRefused() {
        doc.sentence(41, "BAD.");
        CardUnsigned x = new CardUnsigned();
        doc.refused(x, "keep(0, 0)", -1);
        x.body(0);
        doc.refusedEach(x, "keep(0, #)", -1, "1", "49", "50", "-2", "MIN", "MAX");
        for (String shelf : NO_SHELVES) {
            doc.refused(x, "keep(" + shelf + ", 0)", -1);
            doc.refused(x, "keep(" + shelf + ", -1)", -1);
        }
    }

    private static void row() {
        doc.sentence(42, "A SHELF holds a ROW: 1.");
        doc.due(new CardUnsigned(), "row(0, 0, 0)", 1);
        doc.sentence(0, "0 bytes, 1 shorts, 2 ints, 3 longs, 4 booleans, of 0 .. 60 elements, 0 at first (false)");
        CardUnsigned x = new CardUnsigned();
        for (int sort = 0; sort <= 4; sort++) {
            doc.due(x, "row(5, " + sort + ", 60)", 1);
            doc.due(x, "element(5, 0)", 0);
            doc.due(x, "element(5, 59)", 0);
            doc.due(x, "put(5, 59, 1)", 1);
            doc.due(x, "element(5, 59)", 1);
            doc.due(x, "row(5, " + sort + ", 60)", 1);
            doc.due(x, "element(5, 59)", 0);
            doc.due(x, "put(5, 1, 1)", 1);
            doc.due(x, "row(5, " + sort + ", 1)", 1);
            doc.due(x, "put(5, 1, 1)", -13);
            doc.due(x, "row(5, " + sort + ", 2)", 1);
            doc.due(x, "element(5, 1)", 0);
            doc.due(x, "row(5, " + sort + ", 0)", 1);
            doc.due(x, "put(5, 0, 1)", -13);
            doc.due(x, "element(5, 0)", NONE);
        }
    }

    private static void rowRefused() {
        doc.sentence(42, "BAD (sort, n above 60); -14.");
        CardUnsigned x = new CardUnsigned();
        x.row(1, 3, 60);
        for (int shelf = 0; shelf <= 1; shelf++) {
            for (String sort : new String[] {"-1", "5", "MIN", "MAX"}) {
                doc.refused(x, "row(" + shelf + ", " + sort + ", 1)", -1);
                doc.refused(x, "row(" + shelf + ", " + sort + ", -1)", -1);
            }
            for (int sort = 0; sort <= 4; sort++) {
                doc.refused(x, "row(" + shelf + ", " + sort + ", 61)", -1);
                doc.refused(x, "row(" + shelf + ", " + sort + ", MAX)", -1);
                doc.refused(x, "row(" + shelf + ", " + sort + ", -1)", -14);
                doc.refused(x, "row(" + shelf + ", " + sort + ", MIN)", -14);
            }
        }
        for (String shelf : NO_SHELVES) {
            doc.refused(x, "row(" + shelf + ", 0, 1)", -1);
            doc.refused(x, "row(" + shelf + ", 0, -1)", -1);
        }
        doc.due(x, "put(0, 0, 1)", -11);
        doc.due(x, "put(1, 59, 1)", 1);
    }

    private static void nothingAtFirst() {
        doc.sentence(0, "SHELVES 0 .. 5 each hold nothing (at first), a LOOK (a BODY), or a ROW");
        CardUnsigned x = new CardUnsigned();
        for (int shelf = 0; shelf <= 5; shelf++) {
            doc.due(x, "put(" + shelf + ", 0, 1)", -11);
            doc.due(x, "element(" + shelf + ", 0)", NONE);
            doc.due(x, "taken(" + shelf + ", 0)", -11);
            doc.due(x, "shift(" + shelf + ", 0, " + shelf + ", 0, 0)", -11);
        }
    }

    private static void put() {
        doc.sentence(43, "Element i of a ROW becomes v: 1.");
        CardUnsigned x = new CardUnsigned();
        x.row(0, 2, 60);
        x.row(1, 2, 60);
        for (int i = 0; i < 60; i++) {
            doc.due(x, "put(0, " + i + ", " + (i + 7) + ")", 1);
        }
        for (int i = 0; i < 60; i++) {
            doc.due(x, "element(0, " + i + ")", i + 7);
            doc.due(x, "element(1, " + i + ")", 0);
        }
        doc.due(x, "put(0, 59, -1)", 1);
        doc.due(x, "element(0, 59)", -1);
        doc.due(x, "element(0, 58)", 65);
    }

    private static void putRefused() {
        doc.sentence(43, "BAD, -11, -12, -13.");
        CardUnsigned x = new CardUnsigned();
        x.body(0);
        x.keep(1, 0);
        x.row(2, 3, 5);
        x.row(3, 4, 0);
        for (String i : new String[] {"0", "-1", "60", "MIN", "MAX"}) {
            doc.refused(x, "put(0, " + i + ", 1)", -11);
            doc.refused(x, "put(1, " + i + ", 1)", -12);
            doc.refused(x, "put(3, " + i + ", 1)", -13);
            doc.refusedEach(x, "put(#, " + i + ", 1)", -1, NO_SHELVES);
        }
        doc.refusedEach(x, "put(2, #, 1)", -13, "5", "6", "59", "60", "-1", "MIN", "MAX");
        doc.due(x, "put(2, 4, 1)", 1);
    }

    private static void lowestBits() {
        doc.sentence(0, "what is put in keeps its lowest bits (a boolean: whether it is not 0; 1 or 0)");
        CardUnsigned x = new CardUnsigned();
        long[] values = {0, 1, -1, 2, 127, 128, -128, -129, 255, 256, 32767, 32768, -32769, 65535, 65536, 1L << 31, (1L << 31) - 1,
            -(1L << 31) - 1, 1L << 32, (1L << 32) + 5, 1L << 63, (1L << 63) - 1};
        for (int sort = 0; sort < 5; sort++) {
            x.row(sort, sort, 1);
            for (long v : values) {
                long[] due = {(byte) v, (short) v, (int) v, v, v != 0 ? 1 : 0};
                doc.due(x, "put(" + sort + ", 0, " + v + ")", 1);
                doc.due(x, "element(" + sort + ", 0)", due[sort]);
            }
        }
    }

    private static void element() {
        doc.sentence(44, "Element i of a ROW; Long.MIN_VALUE: BAD, -11 to -13.");
        CardUnsigned x = new CardUnsigned();
        x.body(0);
        x.keep(1, 0);
        x.row(2, 3, 5);
        x.row(3, 4, 0);
        for (String i : new String[] {"0", "-1", "5", "60", "MIN", "MAX"}) {
            for (int shelf = 0; shelf <= 3; shelf++) {
                if (shelf != 2 || !i.equals("0")) {
                    doc.refused(x, "element(" + shelf + ", " + i + ")", NONE);
                }
            }
            doc.refusedEach(x, "element(#, " + i + ")", NONE, NO_SHELVES);
        }
        x.put(2, 0, 5);
        x.put(2, 4, Long.MAX_VALUE);
        doc.due(x, "element(2, 0)", 5);
        doc.due(x, "element(2, 4)", Long.MAX_VALUE);
    }

    /** Shelf 0: 1 to 6, shelf 1: four times 0, both ints. */
    private static CardUnsigned twoRows() {
        CardUnsigned x = new CardUnsigned();
        Given.row(x, 0, 2, 1, 2, 3, 4, 5, 6);
        x.row(1, 2, 4);
        return x;
    }

    private static void elements(CardUnsigned x, int shelf, int... due) {
        for (int i = 0; i < due.length; i++) {
            doc.due(x, "element(" + shelf + ", " + i + ")", due[i]);
        }
    }

    private static void shift() {
        doc.sentence(45, "n elements of a ROW from i on come to another one (or the same) from j on");
        CardUnsigned x = twoRows();
        doc.due(x, "shift(0, 2, 1, 1, 3)", 3);
        elements(x, 1, 0, 3, 4, 5);
        elements(x, 0, 1, 2, 3, 4, 5, 6);
        doc.due(x, "shift(1, 0, 0, 2, 4)", 4);
        elements(x, 0, 1, 2, 0, 3, 4, 5);
        doc.due(x, "shift(0, 0, 1, 0, 0)", 0);
        elements(x, 1, 0, 3, 4, 5);
        for (int sort = 0; sort <= 4; sort++) {
            x.row(2, sort, 60);
            x.row(3, sort, 60);
            x.put(2, 59, 1);
            doc.due(x, "shift(2, 0, 3, 0, 60)", 60);
            doc.due(x, "element(3, 59)", 1);
        }
    }

    private static void shiftAsTheyWere() {
        doc.sentence(45, "as they all were before: n.");
        CardUnsigned x = twoRows();
        doc.due(x, "shift(0, 0, 0, 2, 4)", 4);
        elements(x, 0, 1, 2, 1, 2, 3, 4);
        doc.due(x, "shift(0, 1, 0, 0, 5)", 5);
        elements(x, 0, 2, 1, 2, 3, 4, 4);
        doc.due(x, "shift(0, 0, 0, 0, 6)", 6);
        elements(x, 0, 2, 1, 2, 3, 4, 4);
    }

    private static void shiftNothing() {
        doc.sentence(45, "-11 (either)");
        CardUnsigned x = twoRows();
        x.body(0);
        x.keep(2, 0);
        for (int shelf = 0; shelf <= 3; shelf++) {
            for (String n : new String[] {"0", "1", "-1", "61"}) {
                doc.refused(x, "shift(" + shelf + ", 0, 3, 0, " + n + ")", -11);
                doc.refused(x, "shift(3, 0, " + shelf + ", -1, " + n + ")", -11);
            }
        }
    }

    private static void shiftOfAnotherKind() {
        doc.sentence(45, "-12 (no ROWS, or of unlike sorts)");
        CardUnsigned x = twoRows();
        x.body(0);
        x.keep(2, 0);
        for (int shelf = 0; shelf <= 2; shelf++) {
            for (String n : new String[] {"0", "1", "-1", "61"}) {
                doc.refused(x, "shift(" + shelf + ", 0, 2, 0, " + n + ")", -12);
                doc.refused(x, "shift(2, 0, " + shelf + ", -1, " + n + ")", -12);
            }
        }
        for (int sort = 0; sort <= 4; sort++) {
            for (int other = 0; other <= 4; other++) {
                x.row(4, sort, 3);
                x.row(5, other, 3);
                doc.due(x, "shift(4, 0, 5, 0, 3)", sort == other ? 3 : -12);
                doc.due(x, "shift(4, 9, 5, 0, 0)", sort == other ? -13 : -12);
            }
        }
    }

    private static void shiftNoPlace() {
        doc.sentence(45, "-13.");
        CardUnsigned x = twoRows();
        String[] none = {"0, 0, 1, 0, -1", "0, 0, 1, 0, MIN", "0, -1, 1, 0, 1", "0, 0, 1, -1, 1", "0, -1, 1, 0, 0", "0, 0, 1, -1, 0",
            "0, 0, 1, 0, 5", "0, 4, 1, 0, 3", "0, 0, 1, 3, 2", "0, 7, 1, 0, 0", "0, 0, 1, 5, 0", "0, 1, 1, 1, MAX",
            "0, MAX, 1, 0, 1", "0, 0, 1, MAX, 1", "0, MAX, 1, MAX, MAX", "0, MIN, 1, 0, 1", "0, MIN, 1, MIN, MIN", "0, 6, 1, 0, 1",
            "0, 0, 0, 1, 6", "0, 1, 0, 0, 6"};
        doc.refusedEach(x, "shift(#)", -13, none);
        doc.refused(x, "shift(0, 6, 1, 4, 0)", 0);
        doc.due(x, "shift(0, 5, 1, 3, 1)", 1);
        elements(x, 1, 0, 0, 0, 6);
        x.row(1, 2, 0);
        doc.refused(x, "shift(0, 0, 1, 0, 1)", -13);
        doc.refused(x, "shift(1, 0, 1, 0, 0)", 0);
    }

    private static void shiftBad() {
        doc.sentence(45, "BAD, -11 (either)");
        CardUnsigned x = twoRows();
        for (String shelf : NO_SHELVES) {
            for (int other = 0; other <= 2; other++) {
                doc.refused(x, "shift(" + shelf + ", 0, " + other + ", 0, 0)", -1);
                doc.refused(x, "shift(" + other + ", 0, " + shelf + ", 0, -1)", -1);
            }
        }
    }

    private static void taken() {
        doc.sentence(46, "What a SHELF holds, taken for a LOOK of KIND k (0 .. 7), or under it: its KIND.");
        CardUnsigned x = new CardUnsigned();
        for (int kind = 0; kind < 8; kind++) {
            x.keep(5, x.body(kind));
            for (int k = 0; k < 8; k++) {
                boolean under = false;
                for (int up = kind; up >= 0; up = ABOVE[up]) {
                    under |= up == k;
                }
                doc.due(x, "taken(5, " + k + ")", under ? kind : -12);
            }
        }
    }

    private static void takenRefused() {
        doc.sentence(46, "BAD, -11, -12.");
        CardUnsigned x = new CardUnsigned();
        x.body(7);
        x.keep(1, 0);
        for (int sort = 0; sort <= 4; sort++) {
            x.row(2, sort, 1);
            for (int k = 0; k <= 7; k++) {
                doc.refused(x, "taken(0, " + k + ")", -11);
                doc.refused(x, "taken(2, " + k + ")", -12);
            }
        }
        doc.refused(x, "taken(1, 2)", -12);
        doc.refused(x, "taken(1, 7)", 7);
        for (String k : new String[] {"-1", "8", "MIN", "MAX"}) {
            for (int shelf = 0; shelf <= 2; shelf++) {
                doc.refused(x, "taken(" + shelf + ", " + k + ")", -1);
            }
        }
        doc.refusedEach(x, "taken(#, 0)", -1, NO_SHELVES);
    }

    private static void count() {
        doc.sentence(47, "How many: 0 PEOPLE, 1 CARDS, 2 bytes on THE TAPE, 3 changes that may be UNDONE, 4 BODIES");
        CardUnsigned x = new CardUnsigned();
        x.person(0);
        x.person(0);
        x.card(0, 0);
        x.feed(1);
        x.feed(1);
        x.feed(1);
        for (int v = 1; v <= 4; v++) {
            x.mend(0, 0, v);
        }
        for (int i = 0; i < 5; i++) {
            x.body(0);
        }
        x.act(0, 1, 0);
        int[] due = {2, 1, 3, 4, 5, 2};
        for (int what = 0; what < 6; what++) {
            doc.due(x, "count(" + what + ")", due[what]);
        }
        x.undo();
        doc.due(x, "count(3)", 3);
    }

    private static void countRan() {
        doc.sentence(47, "5 bodies that ran in the latest act() (all, kept or not). BAD.");
        CardUnsigned x = new CardUnsigned();
        doc.due(x, "count(5)", 0);
        x.body(7);
        doc.due(x, "count(5)", 0);
        x.act(0, 3, 0);
        doc.due(x, "count(5)", 14);
        x.act(0, 0, 0);
        doc.due(x, "count(5)", 2);
        doc.refusedEach(x, "count(#)", -1, "-1", "6", "MIN", "MAX");
    }
}
