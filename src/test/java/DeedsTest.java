/** Promises 30 to 37: in deed. */
public final class DeedsTest {
    private static final Check check = new Check();

    public static void main(String[] args) {
        pass();
        send();
        thanked();
        image();
        undoRedo();
        fortyAreKept();
        otherCallsAreNoChanges();
        check.end();
    }

    private static void led(int promise, CardUnsigned x, int... due) {
        for (int what = 0; what < 5; what++) {
            check.due(promise, "led(" + what + ")", x.led(what), due[what]);
        }
    }

    private static void pass() {
        CardUnsigned x = Given.office(0);
        check.due(30, "pass(0)", x.pass(0), -1);
        check.due(30, "pass(-1)", x.pass(-1), -1);
        check.due(30, "pass(100)", x.pass(100), -1);
        check.due(30, "pass(MAX)", x.pass(Integer.MAX_VALUE), -1);
        check.due(30, "pass(1)", x.pass(1), 1);
        check.due(30, "pass(99)", x.pass(99), -5);
        check.due(30, "led(4)", x.led(4), 1);
        check.due(30, "pass(98)", x.pass(98), 99);
        check.due(30, "pass(1)", x.pass(1), -5);
        check.due(30, "pass(100)", x.pass(100), -1);
    }

    private static void send() {
        CardUnsigned x = Given.office(3);
        x.pass(50);
        x.mend(1, 5, 4);
        x.mend(1, 0, 51);
        check.due(31, "to itself", x.send(11, 0), -1);
        check.due(31, "ft 30", x.send(30, 0), -1);
        check.due(31, "ft 3", x.send(3, 0), -1);
        check.due(31, "ft -1", x.send(-1, 0), -1);
        check.due(31, "what 2", x.send(10, 2), -1);
        check.due(31, "what 50", x.send(10, 50), -1);
        check.due(31, "what 900", x.send(10, 900), -1);
        check.due(31, "what -1", x.send(10, -1), -1);
        check.due(31, "does not know", x.send(10, 200), -1);
        check.due(31, "not in the office", x.send(10, 301), -1);
        led(31, x, 0, 0, 0, 0, 50);
        check.due(31, "knows", x.send(10, 340), 0);
        check.due(31, "at", x.of(0, 6), 50);
        check.due(31, "shown", x.of(0, 7), 3);
        check.due(31, "secret", x.of(0, 8), 2);
        check.due(31, "stamp", x.of(0, 9), 0);
        check.due(31, "to", x.of(0, 13), 0);
        check.due(31, "sender", x.of(0, 14), 1);
        x.mend(1, 0, 50);
        check.due(31, "just in the office", x.send(10, 301), 1);
        x.card(0, 0);
        x.card(0, 0);
        x.card(0, 0);
        check.due(31, "the sixth", x.send(2, 0), 5);
        check.due(31, "the seventh", x.send(2, 0), -3);
        check.due(31, "the seventh, not as said", x.send(2, 2), -1);
        led(33, x, 3, 0, 0, 0, 50);
        check.due(33, "led(-1)", x.led(-1), -1);
        check.due(33, "led(5)", x.led(5), -1);
    }

    private static void thanked() {
        CardUnsigned x = Given.office(3);
        x.send(10, 0);
        x.card(0, 0);
        x.send(20, 0);
        check.due(32, "ct -1", x.thanked(-1), -1);
        check.due(32, "no such one", x.thanked(3), -1);
        check.due(32, "no such card", x.thanked(30), -1);
        check.due(32, "not sent in deed", x.thanked(11), -5);
        check.due(32, "right", x.thanked(1), 1);
        check.due(32, "once more", x.thanked(1), -5);
        check.due(32, "wrong", x.thanked(21), 0);
        check.due(32, "once more", x.thanked(22), -5);
        led(33, x, 2, 2, 1, 1, 0);
        check.due(32, "who", x.of(2, 15), 1);
        check.due(32, "who", x.of(1, 15), -2);
    }

    private static void image() {
        CardUnsigned x = Given.office(3);
        check.due(35, "no image", x.back(), -5);
        x.pass(10);
        x.send(10, 0);
        x.send(10, 0);
        x.thanked(1);
        check.due(34, "image", x.image(), 10);
        x.pass(5);
        x.send(20, 0);
        x.thanked(12);
        x.thanked(22);
        x.mend(0, 3, 5);
        x.feed(49);
        led(34, x, 3, 3, 2, 1, 15);
        check.due(35, "back", x.back(), 10);
        led(35, x, 2, 1, 1, 0, 10);
        check.due(35, "cards stay", x.count(1), 3);
        check.due(35, "sender stays", x.of(2, 14), 2);
        check.due(35, "at stays", x.of(2, 6), 15);
        check.due(35, "thanked ahead of it", x.of(0, 15), 1);
        check.due(35, "thanked since", x.of(1, 15), -2);
        check.due(35, "thanked since, a new card", x.of(2, 15), -2);
        check.due(35, "changes stay", x.of(0, 3), 5);
        check.due(35, "the tape stays", x.count(2), 1);
        check.due(35, "thanked again", x.thanked(21), 0);
        check.due(35, "back again", x.back(), 10);
        led(35, x, 2, 1, 1, 0, 10);
        x.pass(1);
        check.due(34, "a later image", x.image(), 11);
        x.pass(1);
        check.due(35, "back to the later", x.back(), 11);
    }

    private static void undoRedo() {
        CardUnsigned x = Given.office(2);
        x.card(0, 0);
        check.due(36, "none", x.undo(), -5);
        check.due(37, "none", x.redo(), -5);
        x.mend(1, 3, 4);
        x.mend(0, 6, 77);
        x.mend(0, 10, 9);
        x.mend(0, 10, 9);
        x.mend(0, 10, 13);
        check.due(36, "may be undone", x.count(3), 3);
        check.due(36, "undo", x.undo(), 2);
        check.due(36, "feigns", x.of(0, 10), 2);
        check.due(36, "undo", x.undo(), 1);
        check.due(36, "at", x.of(0, 6), 0);
        check.due(37, "redo", x.redo(), 1);
        check.due(37, "at", x.of(0, 6), 77);
        check.due(37, "the same number is none", x.mend(1, 3, 4), 4);
        check.due(37, "a refused one is none", x.mend(1, 3, 10), CardUnsigned.VOID);
        check.due(37, "redo", x.redo(), 0);
        check.due(37, "feigns", x.of(0, 10), 9);
        check.due(37, "none", x.redo(), -5);
        check.due(36, "undo", x.undo(), 2);
        x.mend(0, 12, 50);
        check.due(37, "another one came behind", x.redo(), -5);
        check.due(36, "undo", x.undo(), 2);
        check.due(36, "loss", x.of(0, 12), 10);
        check.due(36, "undo", x.undo(), 1);
        check.due(36, "undo", x.undo(), 0);
        check.due(36, "shy", x.of(1, 3), 0);
        check.due(36, "none", x.undo(), -5);
        check.due(37, "redo", x.redo(), 2);
        check.due(37, "redo", x.redo(), 1);
        check.due(37, "redo", x.redo(), 0);
        check.due(37, "loss", x.of(0, 12), 50);
        check.due(36, "may be undone", x.count(3), 3);
    }

    private static void fortyAreKept() {
        CardUnsigned x = Given.office(1);
        for (int v = 1; v <= 45; v++) {
            x.mend(0, 11, v == 10 ? 99 : v);
            check.due(36, "count(3)", x.count(3), Math.min(v, 40));
        }
        for (int left = 39; left >= 0; left--) {
            check.due(36, "undo", x.undo(), left);
        }
        check.due(36, "what it was 40 ago", x.of(0, 11), 5);
        check.due(36, "none", x.undo(), -5);
        for (int left = 39; left >= 0; left--) {
            check.due(37, "redo", x.redo(), left);
            check.due(37, "gain", x.of(0, 11), 45 - left == 10 ? 99 : 45 - left);
        }
        check.due(37, "as it was", x.of(0, 11), 45);
    }

    private static void otherCallsAreNoChanges() {
        CardUnsigned x = Given.office(2);
        x.mend(0, 3, 5);
        x.undo();
        x.person(0);
        x.card(0, 0);
        x.send(10, 0);
        x.thanked(11);
        x.pass(3);
        x.image();
        x.back();
        x.body(0);
        Given.law(x, "1");
        check.due(36, "deeds are none", x.undo(), -5);
        check.due(37, "redo behind deeds", x.redo(), 0);
        check.due(37, "shy", x.of(0, 3), 5);
    }
}
