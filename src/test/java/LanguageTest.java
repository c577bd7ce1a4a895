import java.lang.reflect.Field;
import java.lang.reflect.Method;
import java.lang.reflect.Modifier;
import java.nio.file.Files;
import java.nio.file.Path;
import java.util.ArrayList;
import java.util.List;
import java.util.regex.Matcher;
import java.util.regex.Pattern;

/** The rules of LANGUAGE.md that can be seen from the source and the compiled class; the rest wants a reader. */
public final class LanguageTest {
    private static final Path SOURCE = Path.of("src/main/java/BrassYear.java");
    private static final int LINES_MOST = 60;
    private static final int PARAMETERS_MOST = 7;
    private static final int CLASSES_MOST = 12;
    private static final int FIELDS_MOST = 20;

    /** What rules 2, 4, 6, 10 and 13 leave out, as it would be written; the rule stands ahead of it. */
    private static final String[] LEFT_OUT = {
        "2 ->", "2 ::", "4 \\w+Exact\\(", "4 String\\.(format|valueOf|join)", "6 \\bfinally\\b", "6 \\btry\\b", "6 \\bcatch\\b",
        "6 \\bsynchronized\\b", "6 \\bassert\\b", "6 \\b(equals|hashCode|toString)\\(", "10 \"\\s*\\+|\\+\\s*\"",
        "13 \\bSystem\\.(?!arraycopy\\()", "13 \\b(Thread|Random|Runtime|Object)\\b", "3 \\b(double|float|Object|Map|Set|var)\\b",
        "6 throw new (?!NoSuchElementException\\()", "7 while \\(true\\)", "9 for \\(;;\\)"};
    private static final String IMPORTS = "java.util.(Arrays|NoSuchElementException)";

    private static int wrong = 0;
    private static int looked = 0;

    public static void main(String[] args) throws Exception {
        List<String> lines = Files.readAllLines(SOURCE);
        lookAtWords(lines);
        lookAtMethodLengths(lines);
        lookAtClasses();
        System.out.println(looked + " lines and members looked at, " + wrong + " outside the rules");
        if (wrong != 0 || looked == 0) {
            System.exit(1);
        }
    }

    private static void check(boolean so, String what) {
        looked++;
        if (!so) {
            wrong++;
            System.out.println(what);
        }
    }

    private static void lookAtWords(List<String> lines) {
        for (int i = 0; i < lines.size(); i++) {
            String line = lines.get(i);
            String told = "line " + (i + 1) + ": " + line.trim();
            check(line.chars().allMatch(sign -> sign > 0 && sign < 128), "rule 4, " + told);
            if (line.startsWith("package ") || line.startsWith("import ")) {
                check(line.matches("import " + IMPORTS + ";"), "rule 4, " + told);
            }
            String code = line.trim().startsWith("*") || line.trim().startsWith("/*") ? "" : line.replaceFirst("//.*", "");
            for (String rule : LEFT_OUT) {
                int blank = rule.indexOf(' ');
                boolean found = Pattern.compile(rule.substring(blank + 1)).matcher(code).find();
                check(!found, "rule " + rule.substring(0, blank) + ", " + told);
            }
        }
    }

    /** A method begins with a line that ends in ") {" or "Exception {", and ends with a brace as far to the right. */
    private static void lookAtMethodLengths(List<String> lines) {
        Pattern head = Pattern.compile("( {4}| {8})(?!if|for|while|switch|else|return)[a-zA-Z].*\\(.*\\).* \\{");
        int methods = 0;
        for (int i = 0; i < lines.size(); i++) {
            Matcher m = head.matcher(lines.get(i));
            if (m.matches()) {
                methods++;
                int end = i + 1 + lines.subList(i + 1, lines.size()).indexOf(m.group(1) + "}");
                check(end > i && end - i < LINES_MOST, "rule 11, " + (end - i + 1) + " lines from line " + (i + 1));
            }
        }
        check(methods > 100, "only " + methods + " methods were found");
    }

    private static void lookAtClasses() {
        List<Class<?>> classes = new ArrayList<>(List.of(BrassYear.class.getDeclaredClasses()));
        classes.add(BrassYear.class);
        check(classes.size() <= CLASSES_MOST, "rule 11, " + classes.size() + " classes");
        for (Class<?> each : classes) {
            int fields = 0;
            for (Field field : each.getDeclaredFields()) {
                boolean isStatic = Modifier.isStatic(field.getModifiers());
                fields += isStatic ? 0 : 1;
                check(!isStatic || Modifier.isFinal(field.getModifiers()), "rule 5, " + field);
                check(!isStatic || List.of(int.class, long.class, boolean.class, char.class, String.class)
                        .contains(field.getType()), "rule 5, " + field);
                Class<?> type = field.getType();
                boolean isTwofold = type.isArray() && type.getComponentType().isArray();
                check(!isTwofold || type.getComponentType().getComponentType().isPrimitive(), "rule 3, " + field);
            }
            check(fields <= FIELDS_MOST, "rule 11, " + fields + " fields in " + each);
            for (Method method : each.getDeclaredMethods()) {
                check(method.getParameterCount() <= PARAMETERS_MOST, "rule 11, " + method);
            }
        }
    }
}
