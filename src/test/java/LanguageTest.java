import java.io.IOException;
import java.lang.management.ManagementFactory;
import java.lang.reflect.Method;
import java.lang.reflect.Modifier;
import java.nio.file.Files;
import java.nio.file.Path;
import java.util.Arrays;
import java.util.List;
import java.util.Set;
import java.util.TreeSet;
import java.util.regex.Matcher;
import java.util.regex.Pattern;
import java.util.stream.Collectors;

/** The face of the document, and those rules of LANGUAGE.md that can be seen from the source or the class. */
public final class LanguageTest {
    private static final Check check = new Check();
    private static final String FACE = "person(int) people(int,int,int) card(int,int) mend(int,int,int) of(int,int) feed(int) law() "
        + "could(int) counts(int) likely(int,int)L likeliest(int,int) allByOne(int) hands(int,int) unlike(int) evenings(int,int) "
        + "hears(int,int) ask(int,int) worth(int) thank(int) next(int,int) write(int,int,int) written(int,int,int)L looks(int,int) "
        + "since(int,int) judge(int) filled(int,int)L hope(int,int) drawn(int,int,int,int) pass(int) send(int,int) thanked(int) "
        + "led(int) image() back() undo() redo() body(int) act(int,int,int) trace(int) keep(int,int) row(int,int,int) "
        + "put(int,int,long) element(int,int)L shift(int,int,int,int,int) taken(int,int) count(int)";

    public static void main(String[] args) throws IOException {
        String source = Files.readString(Path.of("src/main/java/CardUnsigned.java"));
        face();
        faceAsInTheDocument(source, Files.readString(Path.of("../shared/DOC.md")));
        classesInside();
        source(source);
        room();
        check.end();
    }

    private static void face() {
        Set<String> seen = new TreeSet<>();
        for (Method m : CardUnsigned.class.getDeclaredMethods()) {
            if (!Modifier.isPrivate(m.getModifiers())) {
                String parameters = Arrays.stream(m.getParameterTypes()).map(Class::getName).collect(Collectors.joining(","));
                seen.add(m.getName() + "(" + parameters + ")" + (m.getReturnType() == long.class ? "L" : ""));
            }
        }
        check.holds(0, "the methods are those of the document: " + seen, seen.equals(new TreeSet<>(List.of(FACE.split(" ")))));
        long fields = Arrays.stream(CardUnsigned.class.getDeclaredFields()).filter(f -> !Modifier.isPrivate(f.getModifiers())).count();
        check.due(0, "constants that can be seen", fields, 5);
        check.due(0, "constructors", CardUnsigned.class.getDeclaredConstructors().length, 1);
        check.holds(0, "public and final", CardUnsigned.class.getModifiers() == (Modifier.PUBLIC | Modifier.FINAL));
        check.due(0, "BAD", CardUnsigned.BAD, -1);
        check.due(0, "NOT", CardUnsigned.NOT, -2);
        check.due(0, "FULL", CardUnsigned.FULL, -3);
        check.due(0, "STATE", CardUnsigned.STATE, -5);
        check.due(0, "VOID", CardUnsigned.VOID, -2000000000);
    }

    private static void faceAsInTheDocument(String source, String document) {
        int begin = document.indexOf("public final class CardUnsigned {");
        int end = document.indexOf("\n}", begin);
        check.holds(0, "the document has a face", begin >= 0 && end > begin);
        String[] lines = document.substring(Math.max(begin, 0), Math.max(end, 0)).split("\n");
        check.due(0, "lines of the face", lines.length, 1 + 1 + 1 + FACE.split(" ").length);
        for (String line : lines) {
            String inSource = line.endsWith(");") ? line.replace(");", ") {") : line;
            check.holds(0, "the source has " + line.strip(), source.contains(inSource));
        }
    }

    private static void classesInside() {
        Set<String> face = Arrays.stream(FACE.split(" ")).map(s -> s.substring(0, s.indexOf('('))).collect(Collectors.toSet());
        Class<?>[] inside = CardUnsigned.class.getDeclaredClasses();
        check.holds(0, "twelve classes at most", inside.length < 12);
        for (Class<?> c : inside) {
            check.holds(0, c + " is static and not public", Modifier.isStatic(c.getModifiers()) && !Modifier.isPublic(c.getModifiers()));
            long fields = Arrays.stream(c.getDeclaredFields()).filter(f -> !Modifier.isStatic(f.getModifiers())).count();
            check.holds(0, c + " has twenty fields at most", fields <= 20);
            for (Method m : c.getDeclaredMethods()) {
                check.holds(0, m + " does not bear a public name", !face.contains(m.getName()));
                check.holds(0, m + " takes seven at most", m.getParameterCount() <= 7);
            }
        }
    }

    private static void source(String text) {
        String bare = text.replaceAll("(?s)/\\*.*?\\*/", " ").replaceAll("//[^\n]*", " ");
        String[] words = {"throw", "try", "catch", "synchronized", "assert", "System.out", "->", "::", "hashCode", "toString", "Exact",
            "Random", "Math.random", "currentTimeMillis", "nanoTime", "package", "native", "volatile", "Object"};
        for (String word : words) {
            check.holds(0, "no " + word, !Pattern.compile("(?<![A-Za-z])" + Pattern.quote(word) + "(?![A-Za-z])").matcher(bare).find());
        }
        Matcher imports = Pattern.compile("import ([\\w.]+);").matcher(bare);
        while (imports.find()) {
            check.holds(0, "import " + imports.group(1), imports.group(1).equals("java.util.Arrays"));
        }
        check.holds(0, "signs 1 to 127 alone", text.chars().allMatch(c -> c > 0 && c < 128));
        methodsAreShort(text.split("\n"));
    }

    private static void methodsAreShort(String[] lines) {
        int begun = -1;
        int indent = 0;
        for (int i = 0; i < lines.length; i++) {
            String line = lines[i];
            int here = line.length() - line.stripLeading().length();
            if (begun < 0 && line.endsWith(") {") && (here == 4 || here == 8 && !line.contains("if (") && !line.contains("for ("))) {
                begun = i;
                indent = here;
            } else if (begun >= 0 && here == indent && line.strip().equals("}")) {
                check.holds(0, "short: " + lines[begun].strip(), i - begun <= 60);
                begun = -1;
            }
        }
    }

    /** All calls of a run live in one room, so a call makes no objects. */
    private static void room() {
        com.sun.management.ThreadMXBean threads = (com.sun.management.ThreadMXBean) ManagementFactory.getThreadMXBean();
        CardUnsigned x = new CardUnsigned();
        everyCall(x);
        long before = threads.getThreadAllocatedBytes(Thread.currentThread().getId());
        long between = threads.getThreadAllocatedBytes(Thread.currentThread().getId());
        everyCall(x);
        long behind = threads.getThreadAllocatedBytes(Thread.currentThread().getId());
        long made = behind - between - (between - before);
        check.holds(0, "the calls made " + made + " bytes", made < 1024);
    }

    private static void everyCall(CardUnsigned x) {
        x.row(0, 1, 6);
        x.put(0, 0, 1);
        x.people(0, 0, 2);
        x.person(1);
        x.card(10, 0);
        x.mend(0, 4, 6);
        x.of(0, 4);
        x.feed('l');
        x.feed('+');
        x.feed('1');
        x.law();
        x.could(0);
        x.counts(1);
        x.likely(1, 1);
        x.likeliest(0, 1);
        x.allByOne(1);
        x.hands(1, 1);
        x.unlike(1);
        x.evenings(1, 9);
        x.hears(1, 1);
        x.ask(0, 0);
        x.worth(1);
        x.thank(0);
        x.next(0, 0);
        x.write(10, 5, 0);
        x.written(10, 5, 11);
        x.judge(0);
        x.filled(0, 1);
        x.row(1, 0, 6);
        x.looks(1, -1);
        x.looks(1, -2);
        x.since(1, 3);
        x.hope(0, 1);
        x.drawn(0, 5, 50, -1);
        x.pass(1);
        x.send(10, 0);
        x.thanked(11);
        x.led(0);
        x.image();
        x.back();
        x.undo();
        x.redo();
        x.body(7);
        x.act(0, 3, 5);
        x.trace(0);
        x.keep(2, 0);
        x.element(1, 1);
        x.shift(1, 0, 1, 2, 3);
        x.taken(2, 0);
        x.count(0);
    }
}
