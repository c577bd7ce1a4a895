import java.lang.reflect.InvocationTargetException;
import java.lang.reflect.Method;
import java.util.ArrayList;
import java.util.Arrays;
import java.util.HashMap;
import java.util.List;
import java.util.Map;
import java.util.NoSuchElementException;
import java.util.Set;

/**
 * A text and the calls made behind it. Each call that is looked at is made on a new object, so that no object is
 * used for more calls than the document allows, and none hangs on another. Beside its answer, it is looked at
 * that the call sets TROUBLE (or leaves it, if the document tells no number of it) and that a refused call, or one
 * that only asks, changes nothing and answers the same again.
 */
final class Case {
    private static final Set<String> ACTS = Set.of("feed", "orrery", "turn", "turnBack", "oil", "set", "undo", "image", "back");
    private static final Set<String> WITHOUT_NUMBER = Set.of("feed", "fault", "led", "size");
    /** What these answer hangs on the call just ahead of them. */
    private static final Set<String> OF_THE_LATEST = Set.of("where", "trouble");

    private static final Map<String, Method> METHODS = methods();

    private final String text;
    private final List<Object[]> steps;

    Case(String text) {
        this(text, List.of());
    }

    private Case(String text, List<Object[]> steps) {
        this.text = text;
        this.steps = steps;
    }

    /** The same with a call more; what it answers isn't looked at. */
    Case after(String name, Object... args) {
        List<Object[]> more = new ArrayList<>(steps);
        Object[] step = new Object[args.length + 1];
        step[0] = name;
        System.arraycopy(args, 0, step, 1, args.length);
        more.add(step);
        return new Case(text, more);
    }

    /** The same with a text told anew. */
    Case afterText(String newText) {
        return after("TEXT", newText);
    }

    Case afterTimes(int times, String name, Object... args) {
        Case longer = this;
        for (int i = 0; i < times; i++) {
            longer = longer.after(name, args);
        }
        return longer;
    }

    /** The call isn't refused, and answers that (true is 1). */
    void answers(long want, String name, Object... args) {
        look(want, 0, name, args);
    }

    /** The call answers NONE (or false) by that trouble. */
    void refuses(int trouble, String name, Object... args) {
        look(method(name).getReturnType() == boolean.class ? 0 : BrassYear.NONE, trouble, name, args);
    }

    /** The call throws a NoSuchElementException. */
    void throwsAt(String name, Object... args) {
        look(Long.MIN_VALUE, 0, name, args);
    }

    private void look(long want, int trouble, String name, Object[] args) {
        BrassYear x = made();
        String call = "[" + text + "] " + told() + name + Arrays.toString(args);
        if (OF_THE_LATEST.contains(name)) {
            Sentences.due(call, answer(x, name, args), want);
            return;
        }
        String before = stateOf(x);
        int other = trouble == 2 ? 1 : 2;
        setTrouble(x, other);
        Sentences.due(call, answer(x, name, args), want);
        Sentences.due("trouble() behind " + call, x.trouble(), WITHOUT_NUMBER.contains(name) ? other : trouble);
        boolean changes = ACTS.contains(name) && trouble == 0;
        if (!changes) {
            String behind = stateOf(x);
            Sentences.due("what stays behind " + call + ", " + before + " and " + behind, before.equals(behind) ? 1 : 0, 1);
            Sentences.due(call + " again", answer(x, name, args), want);
        }
    }

    private BrassYear made() {
        BrassYear x = new BrassYear();
        if (text != null) {
            Sentences.due("is [" + text + "] taken", Tapes.tell(x, text) > 0 ? 1 : 0, 1);
        }
        for (Object[] step : steps) {
            if (step[0].equals("TEXT")) {
                Tapes.tell(x, (String) step[1]);
            } else {
                answer(x, (String) step[0], Arrays.copyOfRange(step, 1, step.length));
            }
        }
        return x;
    }

    private String told() {
        StringBuilder all = new StringBuilder();
        for (Object[] step : steps) {
            all.append(Arrays.toString(step)).append(' ');
        }
        return all.length() < 200 ? all.toString() : steps.size() + " calls .. ";
    }

    /** Neither of the two changes anything but the trouble. */
    private static void setTrouble(BrassYear x, int trouble) {
        if (trouble == 1) {
            x.wheel(-1, 0);
        } else {
            x.orrery(-1);
        }
    }

    private static String stateOf(BrassYear x) {
        StringBuilder all = new StringBuilder();
        for (int what = 0; what <= 10; what++) {
            all.append(x.size(what)).append(' ');
        }
        for (int what = 0; what <= 3; what++) {
            all.append(x.now(what)).append(' ');
        }
        for (int w = 0; w < x.size(1); w++) {
            all.append(x.wheel(w, 2)).append('/').append(x.wheel(w, 3)).append(' ');
        }
        return all.append(x.fault()).toString();
    }

    private static Method method(String name) {
        Method method = METHODS.get(name);
        if (method == null) {
            throw new IllegalArgumentException("no call " + name);
        }
        return method;
    }

    private static Map<String, Method> methods() {
        Map<String, Method> all = new HashMap<>();
        for (Method each : BrassYear.class.getMethods()) {
            if (each.getDeclaringClass() == BrassYear.class) {
                all.put(each.getName(), each);
            }
        }
        return all;
    }

    /** A NoSuchElementException counts as the least number. */
    private static long answer(BrassYear x, String name, Object[] args) {
        try {
            Object answer = method(name).invoke(x, args);
            return answer instanceof Boolean so ? so ? 1 : 0 : ((Number) answer).longValue();
        } catch (InvocationTargetException e) {
            if (e.getCause() instanceof NoSuchElementException) {
                return Long.MIN_VALUE;
            }
            throw new IllegalStateException(name + Arrays.toString(args) + " threw", e.getCause());
        } catch (IllegalAccessException e) {
            throw new IllegalStateException(e);
        }
    }
}
