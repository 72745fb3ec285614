import java.util.Random;

/**
 * Promise 8: FAULT as the document defines it, with no reader of its own. The grammar of TEXT is tried by all ways to
 * split, and a byte is at fault if nothing that may stand behind it makes a TEXT.
 */
public final class FaultTest {
    private static final Check check = new Check();
    private static final int TEXT = 0, LINE = 1, E = 2, B = 4, O = 7;
    /** What parts TEXT, LINE, E, A, B, S and P into those of the next rule; a LINE and a B are parted once at most. */
    private static final String[] SIGNS = {";", "?", "|", "&", "<=>", "+-", "*/%"};
    private static final int MOST_OPEN = 6;
    private static final int CALLS = 512;

    private static String text = "";
    /** What is known of a part of the text: rule, open, begin, end; 0 nothing, 1 it is one, 2 it is none. */
    private static byte[] known = new byte[0];
    private static CardUnsigned x = new CardUnsigned();
    private static int calls = 0;

    public static void main(String[] args) {
        allThatGoOn("", "1l(-?;)", 7);
        allThatGoOn("", "1l(!-+<?;)|&*%k", 4);
        allThatGoOn("!-(!-", "1(!-+)", 5);
        allThatGoOn("(((((", "1(!-+)", 5);
        allThatGoOn("1=1", "1=<>&+|?;", 4);
        allThatGoOn("0?0", "0?;|=", 5);
        allThatGoOn("12", "1234567890", 2);
        everyByte();
        for (int seed = 0; seed < 40; seed++) {
            wander(new Random(seed));
        }
        check.end();
    }

    /** Every text of these letters behind a begin that goes on, and each letter that is at fault there. */
    private static void allThatGoOn(String begin, String letters, int more) {
        dueOf(begin, isText(begin) ? 1 : -100 - begin.length());
        for (int i = 0; i < letters.length() && more > 0; i++) {
            String next = begin + letters.charAt(i);
            if (goesOn(next)) {
                allThatGoOn(next, letters, more - 1);
            } else {
                dueOf(next, -100 - begin.length());
                dueOf(next + "1", -100 - begin.length());
            }
        }
    }

    private static void everyByte() {
        for (String begin : new String[] {"", "1", "(", "(1", "1<", "1<1", "!", "1?", "1?1", "1;", "1234", "l", "((((((", "((((((1"}) {
            for (int letter = 0; letter < 256; letter++) {
                String next = begin + (char) letter;
                dueOf(next, isText(next) ? 1 : goesOn(next) ? -100 - next.length() : -100 - begin.length());
            }
        }
    }

    private static void wander(Random random) {
        String letters = "lhskmc0189+-*/%<=>&|!!((()))?;";
        String begin = "";
        while (begin.length() < 18) {
            String next = begin + letters.charAt(random.nextInt(letters.length()));
            if (goesOn(next)) {
                begin = next;
                dueOf(begin, isText(begin) ? 1 : -100 - begin.length());
            } else {
                dueOf(next, -100 - begin.length());
            }
        }
    }

    private static void dueOf(String tape, int want) {
        calls += tape.length() + 1;
        if (calls > CALLS) {
            x = new CardUnsigned();
            calls = tape.length() + 1;
        }
        check.due(8, "law() of " + tape, Given.law(x, tape), want);
    }

    /** An operand at most is wanted yet, and the brackets that are open. */
    private static boolean goesOn(String begin) {
        StringBuilder brackets = new StringBuilder();
        for (int i = 0; i <= MOST_OPEN; i++) {
            if (isText(begin + brackets) || isText(begin + "1" + brackets)) {
                return true;
            }
            brackets.append(')');
        }
        return false;
    }

    private static boolean isText(String whole) {
        text = whole;
        known = new byte[(O + 1) * (MOST_OPEN + 1) * (whole.length() + 1) * (whole.length() + 1)];
        return is(TEXT, 0, 0, whole.length());
    }

    private static boolean is(int rule, int open, int begin, int end) {
        int n = text.length() + 1;
        int place = ((rule * (MOST_OPEN + 1) + open) * n + begin) * n + end;
        if (known[place] == 0) {
            boolean one = begin < end && (rule == O ? isOperand(open, begin, end) : isOfParts(rule, open, begin, end));
            known[place] = (byte) (one ? 1 : 2);
        }
        return known[place] == 1;
    }

    private static boolean isOfParts(int rule, int open, int begin, int end) {
        if (is(rule + 1, open, begin, end)) {
            return true;
        }
        int ahead = rule == LINE || rule == B ? rule + 1 : rule;
        for (int i = begin + 1; i < end - 1; i++) {
            boolean parts = SIGNS[rule].indexOf(text.charAt(i)) >= 0;
            if (parts && is(ahead, open, begin, i) && is(rule + 1, open, i + 1, end)) {
                return true;
            }
        }
        return false;
    }

    private static boolean isOperand(int open, int begin, int end) {
        String part = text.substring(begin, end);
        if (part.matches("[0-9]{1,4}|[lhskmc]")) {
            return true;
        }
        char first = part.charAt(0);
        if (open == MOST_OPEN) {
            return false;
        }
        if (first == '!' || first == '-') {
            return is(O, open + 1, begin + 1, end);
        }
        return first == '(' && part.endsWith(")") && is(E, open + 1, begin + 1, end - 1);
    }
}
