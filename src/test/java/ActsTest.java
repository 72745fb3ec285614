/** Promises 38 to 47: acts, shelves, counts. */
public final class ActsTest {
    private static final Check check = new Check();
    private static final long NONE = Long.MIN_VALUE;

    public static void main(String[] args) {
        bodies();
        acts();
        traces();
        keep();
        rows();
        sorts();
        shift();
        taken();
        count();
        check.end();
    }

    private static void bodies() {
        CardUnsigned x = new CardUnsigned();
        check.due(38, "body(-1)", x.body(-1), -1);
        check.due(38, "body(8)", x.body(8), -1);
        for (int i = 0; i < 50; i++) {
            check.due(38, "body", x.body(i % 8), i);
        }
        check.due(38, "the 51st", x.body(0), -3);
        check.due(38, "the 51st, no such kind", x.body(8), -1);
        check.due(38, "count(4)", x.count(4), 50);
    }

    /** Worked out by hand from the document, for n = 7 and x = 5. */
    private static void acts() {
        int[][] due = {
            {12, 24, 2, 24 - 6},
            {15, 30, 2, 30 - 6},
            {12, -24, 2, -24 - 6},
            {12, -26, 6, -26 - 18},
            {15, 30, 2 - 12, 30 - (6 - 12)},
            {12, -26, 6, -44 ^ 5},
            {24, 48, 2, 48 - 6},
            {15, 30 + (5 - 12), 2 - 12, 23 - (6 - 12) - 1}
        };
        for (int kind = 0; kind < 8; kind++) {
            CardUnsigned x = new CardUnsigned();
            for (int i = 0; i < 7; i++) {
                x.body(0);
            }
            x.body(kind);
            for (int act = 0; act < 4; act++) {
                check.due(39, "kind " + kind + ", act " + act, x.act(7, act, 5), due[kind][act]);
            }
        }
        CardUnsigned x = new CardUnsigned();
        x.body(0);
        x.body(3);
        check.due(39, "wraps", x.act(0, 1, Integer.MAX_VALUE), -2);
        check.due(39, "wraps", x.act(1, 1, Integer.MAX_VALUE), -(Integer.MIN_VALUE + 1) * 2);
    }

    private static void trace(CardUnsigned x, int... due) {
        check.due(47, "count(5)", x.count(5), due.length);
        for (int i = 0; i < due.length; i++) {
            check.due(40, "trace(" + i + ")", x.trace(i), due[i]);
        }
        check.due(40, "trace behind the last", x.trace(due.length), -1);
        check.due(40, "trace(-1)", x.trace(-1), -1);
    }

    private static void traces() {
        CardUnsigned x = new CardUnsigned();
        trace(x);
        for (int kind = 0; kind < 8; kind++) {
            x.body(kind);
        }
        x.act(0, 3, 1);
        trace(x, 2, 10, 1, 11);
        x.act(7, 3, 1);
        trace(x, 81, 2, 80, 10, 20, 1, 50, 11, 20, 1, 50, 11, 20, 1);
        x.act(5, 3, 1);
        trace(x, 60, 2, 41, 30, 10, 1, 40, 11);
        x.act(6, 0, 1);
        trace(x, 70, 1);
        x.act(4, 2, 1);
        trace(x, 50, 11, 20, 1);
        check.due(39, "no such body", x.act(8, 0, 5), 0);
        trace(x);
        x.act(1, 0, 1);
        trace(x, 20, 1);
        check.due(39, "no such act", x.act(1, 4, 5), 0);
        trace(x);
        check.due(39, "act -1", x.act(1, -1, 5), 0);
        check.due(39, "body -1", x.act(-1, 0, 5), 0);
    }

    private static void keep() {
        CardUnsigned x = new CardUnsigned();
        check.due(41, "no such body", x.keep(0, 0), -1);
        check.due(41, "body -2", x.keep(0, -2), -1);
        check.due(41, "shelf 6", x.keep(6, -1), -1);
        check.due(41, "shelf -1", x.keep(-1, -1), -1);
        check.due(41, "nothing", x.keep(0, -1), 1);
        check.due(41, "holds nothing", x.put(0, 0, 0), -11);
        x.body(0);
        check.due(41, "a look", x.keep(0, 0), 1);
        check.due(41, "holds a look", x.put(0, 0, 0), -12);
        check.due(41, "nothing again", x.keep(0, -1), 1);
        check.due(41, "holds nothing", x.taken(0, 0), -11);
        x.row(0, 0, 5);
        check.due(41, "a look instead of a row", x.keep(0, 0), 1);
        check.due(41, "holds a look", x.put(0, 0, 0), -12);
    }

    private static void rows() {
        CardUnsigned x = new CardUnsigned();
        check.due(42, "shelf 6", x.row(6, 0, 0), -1);
        check.due(42, "shelf -1", x.row(-1, 0, 0), -1);
        check.due(42, "sort 5", x.row(0, 5, 0), -1);
        check.due(42, "sort -1", x.row(0, -1, 0), -1);
        check.due(42, "sort 5, n -1", x.row(0, 5, -1), -1);
        check.due(42, "n 61", x.row(0, 0, 61), -1);
        check.due(42, "n -1", x.row(0, 0, -1), -14);
        check.due(42, "n MIN", x.row(0, 0, Integer.MIN_VALUE), -14);
        check.due(42, "nothing came of it", x.put(0, 0, 0), -11);
        check.due(42, "n 60", x.row(0, 3, 60), 1);
        check.due(43, "put, the last", x.put(0, 59, 5), 1);
        check.due(43, "put, behind it", x.put(0, 60, 5), -13);
        check.due(43, "put, -1", x.put(0, -1, 5), -13);
        check.due(43, "put, shelf 6", x.put(6, 0, 5), -1);
        check.due(43, "put, shelf -1", x.put(-1, 0, 5), -1);
        check.due(44, "element", x.element(0, 59), 5);
        check.due(44, "element, 0 at first", x.element(0, 0), 0);
        check.due(44, "element, behind the last", x.element(0, 60), NONE);
        check.due(44, "element, -1", x.element(0, -1), NONE);
        check.due(44, "element, shelf 6", x.element(6, 0), NONE);
        check.due(44, "element, nothing there", x.element(1, 0), NONE);
        x.body(0);
        x.keep(1, 0);
        check.due(44, "element, a look", x.element(1, 0), NONE);
        check.due(42, "a row anew", x.row(0, 3, 60), 1);
        check.due(42, "0 again", x.element(0, 59), 0);
        check.due(42, "an empty row", x.row(0, 3, 0), 1);
        check.due(43, "put, empty", x.put(0, 0, 5), -13);
        check.due(42, "refused, so as it was", x.row(0, 3, 61), -1);
        check.due(43, "put, still empty", x.put(0, 0, 5), -13);
    }

    private static void sorts() {
        CardUnsigned x = new CardUnsigned();
        long[] values = {0, 1, -1, 127, 128, -129, 255, 256, 32768, 65536, 1L << 31, 1L << 32, Long.MAX_VALUE, Long.MIN_VALUE};
        for (int sort = 0; sort < 5; sort++) {
            x.row(sort, sort, values.length);
            for (int i = 0; i < values.length; i++) {
                long v = values[i];
                long[] due = {(byte) v, (short) v, (int) v, v, v != 0 ? 1 : 0};
                check.due(43, "put", x.put(sort, i, v), 1);
                check.due(44, "sort " + sort + ", element of " + v, x.element(sort, i), due[sort]);
            }
        }
    }

    private static void shift() {
        CardUnsigned x = new CardUnsigned();
        check.due(45, "shelf 6", x.shift(6, 0, 0, 0, 0), -1);
        check.due(45, "other 6", x.shift(0, 0, 6, 0, 0), -1);
        check.due(45, "other -1", x.shift(0, 0, -1, 0, 0), -1);
        check.due(45, "nothing", x.shift(0, 0, 1, 0, 0), -11);
        x.row(0, 2, 6);
        check.due(45, "nothing in the other", x.shift(0, 0, 1, 0, 0), -11);
        check.due(45, "nothing in the one", x.shift(1, 0, 0, 0, 0), -11);
        x.body(0);
        x.keep(1, 0);
        check.due(45, "a look and nothing", x.shift(1, 0, 2, 0, 0), -11);
        check.due(45, "a look", x.shift(0, 0, 1, 0, -1), -12);
        check.due(45, "a look", x.shift(1, 0, 0, 0, 0), -12);
        check.due(45, "two looks", x.shift(1, 0, 1, 0, 0), -12);
        x.row(1, 3, 6);
        check.due(45, "unlike sorts", x.shift(0, 9, 1, 0, 0), -12);
        x.row(1, 2, 4);
        for (int i = 0; i < 6; i++) {
            x.put(0, i, i + 1);
        }
        check.due(45, "n -1", x.shift(0, 0, 1, 0, -1), -13);
        check.due(45, "i -1", x.shift(0, -1, 1, 0, 1), -13);
        check.due(45, "j -1", x.shift(0, 0, 1, -1, 1), -13);
        check.due(45, "too many for the other", x.shift(0, 0, 1, 0, 5), -13);
        check.due(45, "too many of the one", x.shift(0, 4, 1, 0, 3), -13);
        check.due(45, "i 7, n 0", x.shift(0, 7, 1, 0, 0), -13);
        check.due(45, "j 5, n 0", x.shift(0, 0, 1, 5, 0), -13);
        check.due(45, "n MAX", x.shift(0, 1, 1, 1, Integer.MAX_VALUE), -13);
        check.due(45, "i MAX", x.shift(0, Integer.MAX_VALUE, 1, 0, 1), -13);
        check.due(45, "none, at both ends", x.shift(0, 6, 1, 4, 0), 0);
        check.due(45, "nothing came of all that", x.element(1, 0), 0);
        check.due(45, "three", x.shift(0, 2, 1, 1, 3), 3);
        row(x, 1, 0, 3, 4, 5);
        check.due(45, "the same, forward", x.shift(0, 0, 0, 2, 4), 4);
        row(x, 0, 1, 2, 1, 2, 3, 4);
        check.due(45, "the same, backward", x.shift(0, 1, 0, 0, 5), 5);
        row(x, 0, 2, 1, 2, 3, 4, 4);
    }

    private static void row(CardUnsigned x, int shelf, int... due) {
        for (int i = 0; i < due.length; i++) {
            check.due(45, "element " + i, x.element(shelf, i), due[i]);
        }
    }

    private static void taken() {
        int[] above = {-1, 0, 0, 2, 1, 3, 0, 4};
        CardUnsigned x = new CardUnsigned();
        check.due(46, "nothing", x.taken(0, 0), -11);
        check.due(46, "shelf 6", x.taken(6, 0), -1);
        check.due(46, "shelf -1", x.taken(-1, 0), -1);
        check.due(46, "k 8", x.taken(0, 8), -1);
        check.due(46, "k -1", x.taken(0, -1), -1);
        x.row(0, 0, 3);
        check.due(46, "a row", x.taken(0, 0), -12);
        for (int kind = 0; kind < 8; kind++) {
            x.keep(0, x.body(kind));
            for (int k = 0; k < 8; k++) {
                boolean under = false;
                for (int up = kind; up >= 0; up = above[up]) {
                    under |= up == k;
                }
                check.due(46, "a look of " + kind + " for " + k, x.taken(0, k), under ? kind : -12);
            }
        }
    }

    private static void count() {
        CardUnsigned x = new CardUnsigned();
        x.person(0);
        x.person(0);
        x.card(0, 0);
        x.feed(1);
        x.feed(1);
        x.feed(1);
        x.mend(0, 0, 1);
        x.mend(0, 0, 2);
        x.mend(0, 0, 3);
        x.mend(0, 0, 4);
        for (int i = 0; i < 5; i++) {
            x.body(0);
        }
        x.act(0, 3, 0);
        int[] due = {2, 1, 3, 4, 5, 4};
        for (int what = 0; what < 6; what++) {
            check.due(47, "count(" + what + ")", x.count(what), due[what]);
        }
        check.due(47, "count(-1)", x.count(-1), -1);
        check.due(47, "count(6)", x.count(6), -1);
    }
}
