/** What the terms say of all calls: which answer comes first, that it changes nothing, how long an object is used. */
public final class AnswersTest {
    private static final Sentences doc = new Sentences();
    private static final String FIRST = "Answers, of several the one named first: BAD (-1): no such number, or it is not as said; "
        + "NOT (-2): as told; FULL (-3); STATE (-5): as told; -11 to -14.";

    public static void main(String[] args) {
        constants();
        badAheadOfFull();
        badAheadOfState();
        badAheadOfNot();
        badAheadOfShelves();
        refusalsInTheirOrder();
        changesNothing();
        atMost512Calls();
        doc.end(1, 1);
    }

    private static void constants() {
        doc.sentence(0, "public static final int BAD = -1, NOT = -2, FULL = -3, STATE = -5, VOID = -2000000000;");
        doc.due(new CardUnsigned(), "could(0)", CardUnsigned.BAD);
        doc.due(new CardUnsigned(), "of(0, 0)", CardUnsigned.VOID);
        doc.due(new CardUnsigned(), "back()", CardUnsigned.STATE);
        doc.due(Given.fullOffice(), "hope(0, 0)", CardUnsigned.NOT);
        doc.due(Given.fullOffice(), "person(0)", CardUnsigned.FULL);
        doc.sentence(0, "VOID is -2000000000.");
        doc.due(new CardUnsigned(), "worth(0)", -2000000000);
    }

    private static void badAheadOfFull() {
        doc.sentence(0, FIRST);
        CardUnsigned x = Given.fullOffice();
        for (int i = 0; i < 120; i++) {
            x.feed(0);
        }
        for (int i = 0; i < 50; i++) {
            x.body(0);
        }
        String[] calls = {"person(4)", "person(-1)", "card(800, 0)", "card(0, 2)", "card(-1, 900)", "send(11, 0)", "send(10, 100)",
            "send(10, 2)", "feed(256)", "feed(-1)", "body(8)", "body(-1)"};
        doc.refusedEach(x, "#", -1, calls);
        doc.refusedEach(x, "#", -3, "person(3)", "card(700, 841)", "send(10, 1)", "feed(255)", "body(7)");
    }

    private static void badAheadOfState() {
        doc.sentence(0, FIRST);
        CardUnsigned x = Given.fullOffice();
        x.pass(99);
        doc.refusedEach(x, "#", -1, "pass(0)", "pass(100)", "thanked(8)", "thanked(60)", "thanked(-1)");
        doc.refusedEach(x, "#", -5, "pass(1)", "pass(99)", "thanked(0)", "thanked(57)");
    }

    private static void badAheadOfNot() {
        doc.sentence(0, FIRST);
        CardUnsigned x = Given.fullOffice();
        x.mend(5, 8, 7);
        Given.law(x, "0");
        String[] calls = {"likeliest(5, 0)", "likeliest(5, 1)", "hands(63, 0)", "hands(32, 1)", "hears(7, 7)", "thank(5)",
            "next(5, 0)", "next(0, 1)", "write(10, 5, 0)", "write(10, 5, 1)", "hope(5, 0)"};
        doc.refusedEach(x, "#", -2, calls);
        String[] bad = {"likeliest(5, 2)", "likeliest(6, 0)", "hands(63, 2)", "hands(64, 0)", "hears(8, 7)", "hears(7, 8)", "thank(6)",
            "next(5, 2)", "next(6, 0)", "write(11, 5, 0)", "write(10, 100, 1)", "write(10, 5, 2)", "hope(5, 2)", "hope(6, 0)"};
        doc.refusedEach(x, "#", -1, bad);
    }

    /** Shelf 0 holds nothing, 1 a look, 2 a row of longs. */
    private static void badAheadOfShelves() {
        doc.sentence(0, FIRST);
        CardUnsigned x = Given.fullOffice();
        x.body(2);
        x.keep(1, 0);
        x.row(2, 3, 4);
        for (int shelf = 0; shelf <= 2; shelf++) {
            doc.refused(x, "people(" + shelf + ", 0, 9)", -1);
            doc.refused(x, "looks(" + shelf + ", 8)", -1);
            doc.refused(x, "looks(" + shelf + ", -3)", -1);
            doc.refused(x, "since(" + shelf + ", 100)", -1);
            doc.refused(x, "filled(" + shelf + ", 2)", Sentences.NONE);
            doc.refused(x, "taken(" + shelf + ", 8)", -1);
            doc.refused(x, "row(" + shelf + ", 5, -1)", -1);
            doc.refused(x, "shift(" + shelf + ", 0, 6, 0, 0)", -1);
            doc.refused(x, "shift(6, 0, " + shelf + ", 0, 0)", -1);
        }
        doc.refused(x, "put(6, -1, 0)", -1);
        doc.refused(x, "row(6, 0, -1)", -1);
        doc.refused(x, "keep(6, 1)", -1);
    }

    private static void refusalsInTheirOrder() {
        doc.sentence(0, "The host's REFUSALS: -11 nothing is there where something is wanted; -12 it is of another kind; "
            + "-13 a place that is not there; -14 a size below 0.");
        CardUnsigned x = new CardUnsigned();
        x.body(2);
        x.keep(1, 0);
        x.row(2, 3, 4);
        x.row(3, 2, 4);
        doc.refused(x, "put(0, -1, 0)", -11);
        doc.refused(x, "put(1, -1, 0)", -12);
        doc.refused(x, "put(2, -1, 0)", -13);
        doc.refused(x, "row(2, 3, -1)", -14);
        doc.refused(x, "taken(0, 1)", -11);
        doc.refused(x, "taken(1, 1)", -12);
        doc.refused(x, "taken(2, 1)", -12);
        doc.refused(x, "shift(1, -1, 0, -1, -1)", -11);
        doc.refused(x, "shift(0, -1, 2, -1, -1)", -11);
        doc.refused(x, "shift(1, -1, 2, -1, -1)", -12);
        doc.refused(x, "shift(2, -1, 3, -1, -1)", -12);
        doc.refused(x, "shift(2, 0, 2, 0, 5)", -13);
        doc.refused(x, "looks(0, -1)", -11);
        doc.refused(x, "looks(2, -1)", -12);
        doc.refused(x, "judge(0)", -11);
        doc.refused(x, "judge(1)", -12);
    }

    /** What is refused in between leaves what can not be read at once as it was: the tape, the image, what was undone. */
    private static void changesNothing() {
        doc.sentence(0, "What is answered so changes nothing.");
        CardUnsigned x = Given.office(3);
        x.send(10, 0);
        x.image();
        x.mend(0, 3, 5);
        x.undo();
        x.feed('4');
        String[] refused = {"feed(256)", "person(4)", "card(300, 0)", "card(0, 2)", "send(10, 100)", "thanked(3)", "pass(0)", "body(8)",
            "keep(0, 0)", "row(0, 0, 61)", "put(0, 0, 1)", "shift(0, 0, 1, 0, 1)"};
        for (String call : refused) {
            doc.refused(x, call, call.startsWith("put") || call.startsWith("shift") ? -11 : -1);
        }
        doc.refused(x, "mend(0, 3, 10)", Sentences.VOID);
        doc.refused(x, "row(0, 0, -1)", -14);
        doc.refused(x, "undo()", -5);
        doc.due(x, "feed(50)", 2);
        doc.due(x, "law()", 1);
        doc.due(x, "counts(1)", 42);
        doc.due(x, "redo()", 0);
        doc.due(x, "of(0, 3)", 5);
        doc.due(x, "thanked(1)", 1);
        doc.due(x, "back()", 0);
        doc.due(x, "of(0, 15)", -2);
        doc.due(x, "led(0)", 1);
    }

    private static void atMost512Calls() {
        doc.sentence(0, "An object is used for at most 512 calls after it has been made");
        CardUnsigned x = new CardUnsigned();
        doc.due(x, "person(0)", 0);
        for (int call = 2; call <= 512; call++) {
            doc.due(x, "mend(0, 11, " + call % 100 + ")", call == 2 ? 10 : (call - 1) % 100);
        }
        CardUnsigned y = Given.office(2);
        doc.due(y, "card(0, 0)", 0);
        for (int call = 4; call <= 512; call++) {
            doc.due(y, call % 2 == 0 ? "written(10, 5, 1)" : "thank(0)", 1);
        }
    }
}
