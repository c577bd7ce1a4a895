import java.lang.reflect.InvocationTargetException;
import java.lang.reflect.Method;
import java.nio.file.Files;
import java.nio.file.Path;
import java.util.ArrayList;
import java.util.List;
import java.util.Set;
import java.util.TreeSet;
import java.util.regex.Matcher;
import java.util.regex.Pattern;
import java.util.stream.Stream;

/** What README.md says is so: its methods are those below, its calls answer as it says, its lists have every test. */
public final class ReadmeTest {
    private static final Pattern CALL = Pattern.compile("x\\.(\\w+)\\(([-0-9, ]*)\\); +// (-?\\d+|true|false): .+");
    private static final int CALLS_MOST = 512;
    private static int wrong = 0;
    private static int looked = 0;

    // as in README.md
    static int tell(BrassYear x, String text) {
        for (int i = 0; i < text.length(); i += 20) {
            x.feed(four(text, i), four(text, i + 4), four(text, i + 8), four(text, i + 12), four(text, i + 16));
        }
        return x.orrery(text.length());
    }

    static int four(String text, int from) {
        int number = 0;
        for (int i = from; i < from + 4; i++) {
            number = number << 8 | (i < text.length() ? text.charAt(i) : ' ');
        }
        return number;
    }
    // until here

    public static void main(String[] args) throws Exception {
        String page = Files.readString(Path.of("README.md"));
        List<String> blocks = new ArrayList<>();
        Matcher block = Pattern.compile("(?s)```java\n(.*?)```").matcher(page);
        while (block.find()) {
            blocks.add(block.group(1));
        }
        check(blocks.size() == 2, blocks.size() + " blocks of Java");
        if (blocks.size() == 2) {
            lookAtMethods(blocks.get(0));
            lookAtCalls(blocks.get(1));
        }
        lookAtLists(page);
        lookAtTroubles();
        System.out.println(looked + " lines of README.md looked at, " + wrong + " aren't so");
        if (wrong != 0) {
            System.exit(1);
        }
    }

    private static void check(boolean so, String what) {
        looked++;
        if (!so) {
            wrong++;
            System.out.println(what);
        }
    }

    private static void lookAtMethods(String methods) throws Exception {
        String source = Files.readString(Path.of("src/test/java/ReadmeTest.java"));
        Matcher here = Pattern.compile("(?s) // as in README.md\n(.*?) +// until here\n").matcher(source);
        check(here.find() && here.group(1).replaceAll("(?m)^ {4}", "").equals(methods), "its methods are others:\n" + methods);
    }

    /** Each line is a text told, whose pieces are joined, or a call with its answer. */
    private static void lookAtCalls(String lines) throws Exception {
        BrassYear x = null;
        int calls = 0;
        for (String statement : lines.replaceAll("\"\n +\\+ \"", "").split("\n")) {
            Matcher text = Pattern.compile("tell\\(x, \"([^\"]*)\"\\);").matcher(statement);
            Matcher call = CALL.matcher(statement);
            if (statement.equals("BrassYear x = new BrassYear();")) {
                x = new BrassYear();
            } else if (text.matches()) {
                tell(x, text.group(1));
                calls += text.group(1).length() / 20 + 2;
            } else {
                check(call.matches() && answer(x, call.group(1), call.group(2)).equals(call.group(3)), "not so: " + statement);
                calls++;
            }
        }
        check(calls > 20 && calls <= CALLS_MOST, calls + " calls");
    }

    private static String answer(BrassYear x, String name, String numbers) throws Exception {
        String[] told = numbers.isEmpty() ? new String[0] : numbers.split(", ");
        for (Method method : BrassYear.class.getMethods()) {
            if (method.getName().equals(name) && method.getParameterCount() == told.length) {
                Object[] arguments = Stream.of(told).map(Integer::valueOf).toArray();
                try {
                    return method.invoke(x, arguments).toString();
                } catch (InvocationTargetException e) {
                    return e.getCause().toString();
                }
            }
        }
        return "no call " + name;
    }

    private static void lookAtLists(String page) throws Exception {
        Set<String> named = new TreeSet<>();
        Matcher name = Pattern.compile("`([A-Z]\\w*Test|Tapes|Sentences|Case)`").matcher(page);
        while (name.find()) {
            named.add(name.group(1) + ".java");
        }
        Set<String> there = new TreeSet<>();
        for (String place : new String[] {"src/test/java", "src/test/support"}) {
            try (Stream<Path> files = Files.list(Path.of(place))) {
                files.forEach(file -> there.add(file.getFileName().toString()));
            }
        }
        check(named.equals(there), "it names " + named + ", there are " + there);
        for (Class<?> inside : BrassYear.class.getDeclaredClasses()) {
            check(page.contains("`" + inside.getSimpleName() + "`"), "it doesn't name " + inside);
        }
    }

    /** It says which calls leave the trouble as it is, and what refused calls answer. */
    private static void lookAtTroubles() {
        BrassYear x = new BrassYear();
        check(x.turn() == BrassYear.NONE && x.trouble() == 1, "turn() without an orrery");
        x.feed(0, 0, 0, 0, 0);
        x.fault();
        x.where();
        x.size(11);
        boolean threw = false;
        try {
            x.led(0);
        } catch (java.util.NoSuchElementException e) {
            threw = true;
        }
        check(threw && x.trouble() == 1, "led(0) without an orrery");
        check(!x.undo() && !x.back(0) && !x.set(0, 0), "undo, back and set without an orrery");
    }
}
