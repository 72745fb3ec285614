/** Promises 30 to 37: in deed. */
public final class DeedsTest {
    private static final Sentences doc = new Sentences();

    public static void main(String[] args) {
        pass();
        passRefused();
        send();
        sendByEach();
        sendRefused();
        sendFull();
        thanked();
        thankedState();
        thankedOnceEach();
        thankedRefused();
        led();
        image();
        back();
        backOfCardsThatCame();
        backOfNone();
        undo();
        undoTheLatestFirst();
        redo();
        redoBehindAnother();
        theSameNumberIsNone();
        allNumbersOfMend();
        fortyAreKept();
        deedsAreNone();
        doc.end(30, 37);
    }

    /** What LED tells: sent, thanked, right, wrong, now. */
    private static void led(CardUnsigned x, int... due) {
        for (int what = 0; what < 5; what++) {
            doc.due(x, "led(" + what + ")", due[what]);
        }
    }

    private static void pass() {
        doc.sentence(0, "it is NOW minute 0; minutes pass (99 at most)");
        CardUnsigned x = new CardUnsigned();
        doc.due(x, "led(4)", 0);
        for (int now = 1; now <= 99; now++) {
            doc.due(x, "pass(1)", now);
        }
        doc.due(x, "led(4)", 99);
        doc.due(new CardUnsigned(), "pass(99)", 99);
    }

    private static void passRefused() {
        doc.sentence(30, "n (1 .. 99) minutes pass: NOW. BAD; STATE: it would be more than 99.");
        CardUnsigned x = new CardUnsigned();
        for (int now = 0; now <= 99; now += 33) {
            doc.refusedEach(x, "pass(#)", -1, "0", "100", "-1", "MIN", "MAX");
            if (now > 0) {
                doc.refused(x, "pass(" + (100 - now) + ")", -5);
                doc.refused(x, "pass(99)", -5);
            }
            if (now < 99) {
                doc.due(x, "pass(33)", now + 33);
            }
        }
        doc.refused(x, "pass(1)", -5);
        CardUnsigned y = new CardUnsigned();
        doc.due(y, "pass(1)", 1);
        doc.refused(y, "pass(99)", -5);
        doc.due(y, "pass(98)", 99);
    }

    private static void send() {
        doc.sentence(31, "One SENDS a CARD (ft; what): its number.");
        CardUnsigned x = Given.office(8);
        x.pass(50);
        x.mend(6, 5, 128);
        doc.due(x, "send(67, 841)", 0);
        int[] due = {50, 3, 7, 1};
        for (int what = 6; what <= 9; what++) {
            doc.due(x, "of(0, " + what + ")", due[what - 6]);
        }
        doc.due(x, "of(0, 13)", 7);
        doc.due(x, "of(0, 14)", 6);
        doc.due(x, "of(0, 15)", -2);
        doc.due(x, "send(1, 0)", 1);
        doc.due(x, "of(1, 14)", 0);
        doc.due(x, "of(1, 8)", -1);
        doc.due(x, "count(1)", 2);
        led(x, 2, 0, 0, 0, 50);
    }

    private static void sendByEach() {
        doc.sentence(0, "one SENDS a CARD to another one (AT is NOW): it is there then");
        for (int ft = 0; ft <= 100; ft++) {
            CardUnsigned x = Given.office(8);
            boolean two = ft % 10 < 8 && ft < 80 && ft / 10 != ft % 10;
            doc.due(x, "send(" + ft + ", 0)", two ? 0 : -1);
            doc.due(x, "of(0, 14)", two ? ft / 10 : Sentences.VOID);
            doc.due(x, "of(0, 13)", two ? ft % 10 : Sentences.VOID);
            doc.due(x, "count(1)", two ? 1 : 0);
        }
    }

    private static void sendRefused() {
        doc.sentence(31, "BAD (also: it does not KNOW the SECRET, a STAMP where it is not in the office NOW); FULL.");
        CardUnsigned x = Given.office(3);
        x.pass(50);
        x.mend(1, 5, 4);
        x.mend(1, 0, 51);
        doc.refusedEach(x, "send(#, 0)", -1, "-1", "0", "11", "22", "3", "13", "30", "100", "MIN", "MAX");
        doc.refusedEach(x, "send(10, #)", -1, "-1", "2", "50", "900", "MIN", "MAX");
        for (int secret = 0; secret < 8; secret++) {
            doc.refused(x, "send(20, " + 100 * (secret + 1) + ")", -1);
            if (secret != 2) {
                doc.refused(x, "send(10, " + 100 * (secret + 1) + ")", -1);
            }
        }
        doc.refused(x, "send(10, 1)", -1);
        doc.refused(x, "send(10, 301)", -1);
        doc.due(x, "send(10, 300)", 0);
        x.mend(1, 0, 50);
        doc.due(x, "send(10, 301)", 1);
        x.mend(1, 1, 49);
        doc.refused(x, "send(10, 1)", -1);
        x.mend(1, 1, 50);
        doc.due(x, "send(10, 1)", 2);
        doc.refused(new CardUnsigned(), "send(10, 0)", -1);
        doc.refused(Given.office(1), "send(1, 0)", -1);
    }

    private static void sendFull() {
        doc.sentence(31, "FULL.");
        CardUnsigned x = Given.office(2);
        for (int i = 0; i < 5; i++) {
            x.card(0, 0);
        }
        doc.due(x, "send(10, 0)", 5);
        doc.refused(x, "send(10, 0)", -3);
        doc.refused(x, "send(10, 1)", -3);
        doc.refused(x, "send(10, 100)", -1);
        doc.refused(x, "send(11, 0)", -1);
        led(x, 1, 0, 0, 0, 0);
    }

    private static void thanked() {
        doc.sentence(32, "One is THANKED: 1 right, 0 wrong.");
        CardUnsigned x = Given.office(3);
        x.send(10, 0);
        x.send(20, 0);
        x.send(21, 0);
        doc.due(x, "thanked(1)", 1);
        doc.due(x, "thanked(11)", 0);
        doc.due(x, "thanked(21)", 0);
        for (int card = 0; card < 3; card++) {
            doc.due(x, "of(" + card + ", 15)", 1);
        }
        led(x, 3, 3, 1, 2, 0);
        for (int one = 0; one < 8; one++) {
            CardUnsigned y = Given.office(8);
            for (int card = 0; card < 6; card++) {
                y.send(70, 0);
                doc.due(y, "thanked(" + (10 * card + one) + ")", one == 7 ? 1 : 0);
                doc.due(y, "of(" + card + ", 15)", one);
            }
            led(y, 6, 6, one == 7 ? 6 : 0, one == 7 ? 0 : 6, 0);
        }
    }

    private static void thankedState() {
        doc.sentence(32, "STATE: it was not sent in deed, or somebody is.");
        CardUnsigned x = Given.office(3);
        x.card(0, 0);
        x.send(10, 0);
        for (int one = 0; one < 3; one++) {
            doc.refused(x, "thanked(" + one + ")", -5);
        }
        doc.due(x, "thanked(10)", 0);
        for (int one = 0; one < 3; one++) {
            doc.refused(x, "thanked(" + (10 + one) + ")", -5);
        }
        x.send(10, 0);
        doc.due(x, "thanked(21)", 1);
        doc.refused(x, "thanked(21)", -5);
    }

    private static void thankedOnceEach() {
        doc.sentence(0, "one is THANKED for a CARD that was sent so (once each): right or wrong");
        CardUnsigned x = Given.office(3);
        x.send(10, 0);
        x.send(10, 0);
        doc.due(x, "thanked(1)", 1);
        doc.due(x, "thanked(1)", -5);
        doc.due(x, "thanked(2)", -5);
        doc.due(x, "thanked(12)", 0);
        doc.due(x, "thanked(11)", -5);
        led(x, 2, 2, 1, 1, 0);
    }

    private static void thankedRefused() {
        doc.sentence(32, "BAD;");
        CardUnsigned x = Given.office(3);
        x.send(10, 0);
        x.card(0, 0);
        doc.refusedEach(x, "thanked(#)", -1, "-1", "3", "9", "13", "20", "21", "60", "MIN", "MAX");
        doc.refused(new CardUnsigned(), "thanked(0)", -1);
        doc.due(x, "thanked(2)", 0);
    }

    private static void led() {
        doc.sentence(33, "LED: sent (what 0), thanked (1), right (2), wrong (3), NOW (4). BAD.");
        CardUnsigned x = Given.office(8);
        for (int i = 0; i < 6; i++) {
            x.send(10, 0);
        }
        for (int card = 0; card < 5; card++) {
            x.thanked(10 * card + card);
        }
        x.pass(7);
        led(x, 6, 5, 1, 4, 7);
        doc.refusedEach(x, "led(#)", -1, "-1", "5", "MIN", "MAX");
    }

    private static void image() {
        doc.sentence(34, "AN IMAGE is kept: NOW.");
        CardUnsigned x = new CardUnsigned();
        doc.due(x, "image()", 0);
        x.pass(99);
        doc.due(x, "back()", 0);
        x.pass(60);
        doc.due(x, "image()", 60);
        doc.due(x, "image()", 60);
        x.pass(39);
        doc.due(x, "back()", 60);
        doc.due(x, "led(4)", 60);
        x.pass(1);
        doc.due(x, "image()", 61);
        x.pass(1);
        doc.due(x, "back()", 61);
    }

    private static void back() {
        doc.sentence(0, "AN IMAGE keeps NOW, who is thanked for what, what LED tells.");
        CardUnsigned x = Given.office(3);
        x.pass(10);
        x.send(10, 0);
        x.send(10, 0);
        x.send(10, 0);
        x.send(10, 0);
        x.thanked(1);
        x.thanked(22);
        x.thanked(30);
        x.image();
        x.pass(5);
        x.thanked(12);
        x.mend(0, 3, 5);
        x.feed(49);
        x.body(3);
        x.row(0, 0, 3);
        x.person(2);
        led(x, 4, 4, 1, 3, 15);
        doc.due(x, "back()", 10);
        led(x, 4, 3, 1, 2, 10);
        int[] thanked = {1, -2, 2, 0};
        for (int card = 0; card < 4; card++) {
            doc.due(x, "of(" + card + ", 15)", thanked[card]);
        }
        doc.due(x, "of(0, 3)", 5);
        int[] counts = {4, 4, 1, 1, 1};
        for (int what = 0; what < 5; what++) {
            doc.due(x, "count(" + what + ")", counts[what]);
        }
        doc.due(x, "put(0, 0, 1)", 1);
        doc.due(x, "thanked(11)", 1);
        led(x, 4, 4, 2, 2, 10);
        doc.due(x, "back()", 10);
        led(x, 4, 3, 1, 2, 10);
        doc.due(x, "thanked(1)", -5);
    }

    private static void backOfCardsThatCame() {
        doc.sentence(35, "It is laid back (nobody is THANKED for CARDS that came since): NOW.");
        CardUnsigned x = Given.office(3);
        doc.due(x, "image()", 0);
        for (int card = 0; card < 6; card++) {
            x.send(10, 0);
            x.thanked(10 * card + 1);
        }
        x.pass(1);
        led(x, 6, 6, 6, 0, 1);
        doc.due(x, "back()", 0);
        led(x, 0, 0, 0, 0, 0);
        for (int card = 0; card < 6; card++) {
            doc.due(x, "of(" + card + ", 15)", -2);
            doc.due(x, "of(" + card + ", 14)", 1);
            doc.due(x, "of(" + card + ", 13)", 0);
        }
        doc.due(x, "count(1)", 6);
        doc.due(x, "thanked(52)", 0);
        led(x, 0, 1, 0, 1, 0);
    }

    private static void backOfNone() {
        doc.sentence(35, "STATE: there is none.");
        CardUnsigned x = Given.office(2);
        doc.refused(x, "back()", -5);
        x.pass(3);
        x.send(10, 0);
        doc.refused(x, "back()", -5);
        doc.due(x, "image()", 3);
        doc.due(x, "back()", 3);
        doc.due(x, "back()", 3);
    }

    private static void undo() {
        doc.sentence(36, "UNDONE: how many may still be. STATE: none.");
        CardUnsigned x = Given.office(2);
        x.card(0, 0);
        doc.refused(x, "undo()", -5);
        x.mend(1, 3, 4);
        x.mend(0, 6, 77);
        x.mend(0, 6, 78);
        doc.due(x, "count(3)", 3);
        doc.due(x, "undo()", 2);
        doc.due(x, "of(0, 6)", 77);
        doc.due(x, "undo()", 1);
        doc.due(x, "of(0, 6)", 0);
        doc.due(x, "of(1, 3)", 4);
        doc.due(x, "undo()", 0);
        doc.due(x, "of(1, 3)", 0);
        doc.due(x, "count(3)", 0);
        doc.refused(x, "undo()", -5);
    }

    private static void undoTheLatestFirst() {
        doc.sentence(0, "can be UNDONE, the latest first, and DONE AGAIN");
        CardUnsigned x = Given.office(1);
        for (int v = 1; v <= 9; v++) {
            x.mend(0, 3, v);
        }
        for (int v = 8; v >= 0; v--) {
            doc.due(x, "undo()", v);
            doc.due(x, "of(0, 3)", v);
        }
        for (int v = 1; v <= 9; v++) {
            doc.due(x, "redo()", 9 - v);
            doc.due(x, "of(0, 3)", v);
        }
    }

    private static void redo() {
        doc.sentence(37, "DONE AGAIN: how many may still be. STATE: none.");
        CardUnsigned x = Given.office(2);
        doc.refused(x, "redo()", -5);
        x.mend(1, 3, 4);
        doc.refused(x, "redo()", -5);
        x.mend(1, 3, 5);
        x.mend(0, 0, 6);
        x.undo();
        x.undo();
        x.undo();
        doc.due(x, "redo()", 2);
        doc.due(x, "of(1, 3)", 4);
        doc.due(x, "count(3)", 1);
        doc.due(x, "redo()", 1);
        doc.due(x, "of(1, 3)", 5);
        doc.due(x, "of(0, 0)", 0);
        doc.due(x, "redo()", 0);
        doc.due(x, "of(0, 0)", 6);
        doc.due(x, "count(3)", 3);
        doc.refused(x, "redo()", -5);
        doc.due(x, "undo()", 2);
        doc.due(x, "redo()", 0);
    }

    private static void redoBehindAnother() {
        doc.sentence(0, "and DONE AGAIN (as long as no other came behind)");
        CardUnsigned x = Given.office(2);
        x.mend(1, 3, 4);
        x.mend(1, 3, 5);
        x.undo();
        x.undo();
        doc.due(x, "mend(0, 12, 50)", 10);
        doc.refused(x, "redo()", -5);
        doc.due(x, "undo()", 0);
        doc.due(x, "of(0, 12)", 10);
        doc.due(x, "redo()", 0);
        doc.due(x, "of(0, 12)", 50);
        doc.due(x, "of(1, 3)", 0);
        doc.refused(x, "redo()", -5);
    }

    private static void theSameNumberIsNone() {
        doc.sentence(0, "telling the same number is none");
        CardUnsigned x = Given.office(2);
        doc.refused(x, "mend(1, 1, 99)", 99);
        doc.refused(x, "undo()", -5);
        x.mend(1, 3, 4);
        doc.refused(x, "mend(1, 3, 4)", 4);
        doc.due(x, "count(3)", 1);
        x.undo();
        doc.refused(x, "mend(1, 3, 0)", 0);
        doc.refused(x, "mend(1, 3, 10)", Sentences.VOID);
        doc.due(x, "redo()", 0);
        doc.due(x, "of(1, 3)", 4);
    }

    private static void allNumbersOfMend() {
        doc.sentence(0, "CHANGES (all numbers of mend();");
        CardUnsigned x = Given.fullOffice();
        int[] first = new int[13];
        for (int what = 0; what <= 12; what++) {
            first[what] = x.of(0, what);
            x.mend(0, what, first[what] == 1 ? 0 : 1);
            doc.due(x, "count(3)", what + 1);
        }
        for (int what = 12; what >= 0; what--) {
            doc.due(x, "of(0, " + what + ")", first[what] == 1 ? 0 : 1);
            doc.due(x, "undo()", what);
            doc.due(x, "of(0, " + what + ")", first[what]);
        }
        for (int what = 0; what <= 12; what++) {
            doc.due(x, "redo()", 12 - what);
            doc.due(x, "of(0, " + what + ")", first[what] == 1 ? 0 : 1);
        }
    }

    private static void fortyAreKept() {
        doc.sentence(0, "40 at most are kept; deeds are none.");
        CardUnsigned x = Given.office(8);
        for (int v = 1; v <= 45; v++) {
            x.mend(v % 8, 0, v);
            doc.due(x, "count(3)", Math.min(v, 40));
        }
        for (int left = 39; left >= 0; left--) {
            doc.due(x, "undo()", left);
        }
        doc.refused(x, "undo()", -5);
        for (int one = 0; one < 8; one++) {
            doc.due(x, "of(" + one + ", 0)", one >= 1 && one <= 5 ? one : 0);
        }
        for (int left = 39; left >= 0; left--) {
            doc.due(x, "redo()", left);
            doc.due(x, "of(" + (45 - left) % 8 + ", 0)", 45 - left);
        }
        doc.refused(x, "redo()", -5);
        doc.due(x, "undo()", 39);
        doc.due(x, "mend(0, 0, 99)", 40);
        doc.due(x, "count(3)", 40);
        doc.due(x, "undo()", 39);
        fortyOfUnlikeNumbers();
    }

    /** Three times 13 numbers and four more: the first three are not kept. */
    private static void fortyOfUnlikeNumbers() {
        CardUnsigned x = Given.fullOffice();
        int[][] was = new int[43][];
        for (int i = 0; i < 43; i++) {
            int what = i % 13;
            int number = what <= 9 ? i / 13 : 0;
            was[i] = new int[] {number, what, x.of(number, what)};
            x.mend(number, what, was[i][2] == 1 ? 0 : 1);
        }
        for (int i = 42; i >= 3; i--) {
            doc.due(x, "undo()", i - 3);
            doc.due(x, "of(" + was[i][0] + ", " + was[i][1] + ")", was[i][2]);
        }
        doc.refused(x, "undo()", -5);
        for (int i = 0; i < 3; i++) {
            doc.due(x, "of(" + was[i][0] + ", " + was[i][1] + ")", was[i][2] == 1 ? 0 : 1);
        }
    }

    private static void deedsAreNone() {
        doc.sentence(0, "deeds are none.");
        CardUnsigned x = Given.office(2);
        x.mend(0, 3, 5);
        x.undo();
        x.person(0);
        x.card(0, 0);
        x.send(10, 0);
        x.thanked(11);
        x.pass(3);
        x.image();
        x.back();
        x.body(0);
        x.row(0, 0, 1);
        x.put(0, 0, 1);
        Given.law(x, "1");
        doc.due(x, "count(3)", 0);
        doc.refused(x, "undo()", -5);
        doc.due(x, "redo()", 0);
        doc.due(x, "of(0, 3)", 5);
        doc.due(x, "undo()", 0);
        doc.due(x, "count(1)", 2);
        doc.due(x, "led(4)", 3);
    }
}
