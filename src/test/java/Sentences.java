import java.io.IOException;
import java.lang.reflect.InvocationTargetException;
import java.lang.reflect.Method;
import java.nio.file.Files;
import java.nio.file.Path;
import java.util.ArrayList;
import java.util.HashSet;
import java.util.List;
import java.util.Set;
import java.util.regex.Matcher;
import java.util.regex.Pattern;

/**
 * Tests by the sentences of the document. A test quotes the sentence that it is about, then tells calls and the
 * answers that are due by it. The quote must stand in the document, and each answer that a promise names
 * (BAD, FULL, -13 ..) must be due once at least, so that no sentence about a boundary goes without a test.
 */
final class Sentences {
    static final long NONE = -9223372036854775808L;
    static final int VOID = -2000000000;
    private static final int PROMISES = 47;
    private static final Path DOCUMENT = Path.of("../shared/DOC.md");

    private final Check check = new Check();
    /** The text of each promise; at 0 what stands ahead of the first. */
    private final List<String> texts = new ArrayList<>();
    /** The answers that were due of each promise's call. */
    private final List<Set<Long>> answers = new ArrayList<>();
    private int promise = 0;
    private String words = "";
    private int answersToWords = 1;

    Sentences() {
        String document = document();
        for (int i = 0; i <= PROMISES; i++) {
            int begin = i == 0 ? 0 : document.indexOf("## Promise " + i + ":");
            int end = document.indexOf(i == 0 ? "\n## Promise 1:" : "\n## ", begin);
            texts.add(begin >= 0 && end > begin ? document.substring(begin, end) : "");
            answers.add(new HashSet<>());
        }
    }

    private static String document() {
        try {
            return Files.readString(DOCUMENT);
        } catch (IOException e) {
            return "";
        }
    }

    /** The answers from here on are due by these words of a promise; 0: of the terms ahead of all promises. */
    void sentence(int promise, String words) {
        endSentence();
        this.promise = promise;
        this.words = words;
        answersToWords = 0;
        check.holds(promise, "the document says: " + words, texts.get(promise).contains(words));
    }

    private void endSentence() {
        check.holds(promise, "there are answers to: " + words, answersToWords > 0);
    }

    /** The call is told as a text, say "mend(0, 4, 255)"; MIN and MAX stand for the least and the greatest int. */
    void due(CardUnsigned x, String call, long want) {
        answersToWords++;
        answers.get(promiseOf(call)).add(want);
        check.due(promise, call + " (" + words + ")", answer(x, call), want);
    }

    private int promiseOf(String call) {
        String name = call.substring(0, call.indexOf('('));
        for (int i = 1; i <= PROMISES; i++) {
            if (texts.get(i).startsWith("## Promise " + i + ": " + name + "\n")) {
                return i;
            }
        }
        return 0;
    }

    /** Due as above, and nothing that can be read is another then. */
    void refused(CardUnsigned x, String call, long want) {
        long before = Given.state(x);
        due(x, call, want);
        check.due(promise, "what can be read behind " + call, Given.state(x), before);
    }

    /** The same of a call with each of these numbers in the place of #. */
    void refusedEach(CardUnsigned x, String call, long want, String... numbers) {
        for (String number : numbers) {
            refused(x, call.replace("#", number), want);
        }
    }

    private long answer(CardUnsigned x, String call) {
        String name = call.substring(0, call.indexOf('('));
        String inside = call.substring(call.indexOf('(') + 1, call.length() - 1);
        String[] numbers = inside.isEmpty() ? new String[0] : inside.split(", ");
        for (Method method : CardUnsigned.class.getMethods()) {
            if (method.getName().equals(name) && method.getParameterCount() == numbers.length) {
                return made(x, method, numbers);
            }
        }
        check.holds(promise, call + " is in the face", false);
        return 0;
    }

    private long made(CardUnsigned x, Method method, String[] numbers) {
        Object[] arguments = new Object[numbers.length];
        for (int i = 0; i < numbers.length; i++) {
            boolean isLong = method.getParameterTypes()[i] == long.class;
            arguments[i] = isLong ? (Object) Long.parseLong(numbers[i]) : (Object) number(numbers[i]);
        }
        try {
            return ((Number) method.invoke(x, arguments)).longValue();
        } catch (InvocationTargetException | IllegalAccessException e) {
            check.holds(promise, method.getName() + " does not throw: " + e.getCause(), false);
            return 0;
        }
    }

    private static int number(String text) {
        return text.equals("MIN") ? Integer.MIN_VALUE : text.equals("MAX") ? Integer.MAX_VALUE : Integer.parseInt(text);
    }

    /** Ends a test of these promises and of what the terms say about them. The first promise has no call. */
    void end(int first, int last) {
        endSentence();
        for (int i = first; i <= last; i++) {
            check.holds(i, "some answer is tested", i == 1 || !answers.get(i).isEmpty());
            for (long named : namedAnswers(texts.get(i))) {
                check.holds(i, "the answer " + named + ", which it names, is tested", answers.get(i).contains(named));
            }
        }
        check.end();
    }

    /** VOID and Long.MIN_VALUE stand for the answers that are named behind them. */
    private static List<Long> namedAnswers(String text) {
        String named = text.substring(text.indexOf("`: ") + 1).replaceAll("Long\\.MIN_VALUE: [^\n]*", "NONE")
            .replace("VOID: BAD", "VOID").replace("NOT: 0 by 1", "");
        String[] names = {"BAD", "NOT", "FULL", "STATE", "VOID", "NONE", "-11", "-12", "-13", "-14"};
        long[] numbers = {-1, -2, -3, -5, VOID, NONE, -11, -12, -13, -14};
        List<Long> found = new ArrayList<>();
        for (int i = 0; i < names.length; i++) {
            Matcher matcher = Pattern.compile("(?<!\\w)" + names[i] + "(?!\\w)").matcher(named);
            if (matcher.find()) {
                found.add(numbers[i]);
            }
        }
        return found;
    }
}
