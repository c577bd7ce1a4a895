import java.lang.management.ManagementFactory;
import java.lang.reflect.Constructor;
import java.lang.reflect.Field;
import java.lang.reflect.Method;
import java.lang.reflect.Modifier;
import java.nio.file.Files;
import java.nio.file.Path;
import java.util.ArrayList;
import java.util.Arrays;
import java.util.List;
import java.util.Set;
import java.util.TreeSet;

/**
 * The class has the face that the document's own lines tell, and no other, and its calls make no objects (all calls
 * live in one room).
 */
public final class FaceTest {
    private static final String TEXT = "brass oil 3 slips 25;wheel p planet teeth 60 by 7 at 0;wheel m moon teeth 59 by 1 at 4;"
            + "wheel t thimble teeth 8 by 3 at 1;wheel b bead teeth 53 by 1 at 0;gone p 4;gone m 2;feast pp p at 2;"
            + "feast pm p at 5,m at 0;feast tt t at 2;feast pb p at 0,b at 0;work one takes 1 worth 5 by pp;"
            + "work two takes 2 worth 7 by pm;sky pp every 5 from 2;suspect b;smooth day 1;jerked day 3";
    private static int wrong = 0;

    public static void main(String[] args) throws Exception {
        lookAtMembers(toldFace());
        lookAtObjects();
        System.out.println(wrong == 0 ? "the face is the document's, and calls make no objects" : wrong + " wrong");
        if (wrong != 0) {
            System.exit(1);
        }
    }

    private static void check(boolean so, String what) {
        if (!so) {
            wrong++;
            System.out.println(what);
        }
    }

    /** The public lines of the document's face, without the names of parameters. */
    private static Set<String> toldFace() throws Exception {
        Set<String> face = new TreeSet<>();
        boolean inside = false;
        for (String line : Files.readAllLines(Path.of("../shared/DOC.md"))) {
            inside = line.startsWith("public final class BrassYear") || inside && !line.equals("}");
            if (inside && line.startsWith("    public ")) {
                face.add(line.trim().replaceAll("(int|boolean) \\w+(?=[,)])", "$1"));
            }
        }
        check(face.size() == 50, "the document's face has " + face.size() + " lines");
        return face;
    }

    private static void lookAtMembers(Set<String> told) throws Exception {
        Set<String> face = new TreeSet<>();
        for (Method method : BrassYear.class.getDeclaredMethods()) {
            if (!Modifier.isPrivate(method.getModifiers())) {
                face.add(Modifier.toString(method.getModifiers()) + " " + method.getReturnType() + " " + method.getName()
                        + "(" + names(method.getParameterTypes()) + ")"
                        + (method.getExceptionTypes().length == 0 ? "" : " throws " + names(method.getExceptionTypes())) + ";");
            }
        }
        for (Constructor<?> each : BrassYear.class.getDeclaredConstructors()) {
            face.add(Modifier.toString(each.getModifiers()) + " BrassYear(" + names(each.getParameterTypes()) + ");");
        }
        for (Field field : BrassYear.class.getDeclaredFields()) {
            if (!Modifier.isPrivate(field.getModifiers())) {
                face.add(Modifier.toString(field.getModifiers()) + " " + field.getType() + " " + field.getName() + " = "
                        + field.get(null) + ";");
            }
        }
        Set<String> more = new TreeSet<>(face);
        more.removeAll(told);
        told.removeAll(face);
        check(more.isEmpty() && told.isEmpty(), "the face has " + more + ", but not " + told);
        check(Modifier.toString(BrassYear.class.getModifiers()).equals("public final"), "the class isn't public and final");
        check(BrassYear.class.getInterfaces().length == 0 && BrassYear.class.getSuperclass() == Object.class,
                "the class is of other sorts, too");
        lookAtNames();
    }

    private static void lookAtNames() {
        Set<String> publicNames = new TreeSet<>();
        List<String> otherNames = new ArrayList<>();
        for (Method method : BrassYear.class.getDeclaredMethods()) {
            (Modifier.isPrivate(method.getModifiers()) ? otherNames : publicNames).add(method.getName());
        }
        for (Class<?> inside : BrassYear.class.getDeclaredClasses()) {
            check(Modifier.isStatic(inside.getModifiers()), inside + " isn't static");
            for (Method method : inside.getDeclaredMethods()) {
                otherNames.add(method.getName());
            }
        }
        otherNames.retainAll(publicNames);
        check(otherNames.isEmpty(), "other methods bear public names: " + otherNames);
    }

    private static String names(Class<?>[] types) {
        return String.join(", ", Arrays.stream(types).map(Class::getSimpleName).toArray(String[]::new));
    }

    private static void lookAtObjects() {
        BrassYear x = new BrassYear();
        Tapes.tell(x, TEXT);
        com.sun.management.ThreadMXBean thread = (com.sun.management.ThreadMXBean) ManagementFactory.getThreadMXBean();
        long few = 0;
        for (int i = 0; i < 3; i++) {
            long before = thread.getCurrentThreadAllocatedBytes();
            callAll(x);
            few = thread.getCurrentThreadAllocatedBytes() - before;
        }
        check(few < 300, "calls made " + few + " bytes of objects");
    }

    private static long callAll(BrassYear x) {
        long sum = 0;
        for (int f = 0; f < 4; f++) {
            sum += x.next(f) + x.often(f, 5000) + x.meet(f, 3 - f) + x.longestGap(f) + x.settings(f, 5000) + x.agree(f)
                    + x.drift(f) + x.value(f, 6) + x.moves(f, 6) + x.yearFeasts(f, 5, 400);
            for (int w = 0; w < 4; w++) {
                sum += x.setFor(w, f, 77) + x.byFor(w, f) + x.byIn(w, f);
            }
        }
        for (int w = 0; w < 4; w++) {
            sum += x.wheel(w, 5) + x.isGone(w, 0) + x.toothIn(w, 1000000) + x.jerks(w, 5000) + x.comesRound(w) + x.idle(w)
                    + x.likely(w, 0, 6, true) + x.jerkMean(w, 6, true) + x.years(w, 0, 400);
        }
        sum += x.soonest() + x.lineWorth() + x.lineAt(0) + x.inTime() + x.fits() + x.fitAt(0) + x.look() + x.lookLeaves()
                + x.judge(3) + x.slips(0, 400) + x.turn() + x.turnBack() + x.oil(1) + x.image() + x.size(2) + x.work(0, 0);
        x.set(0, 7);
        x.undo();
        x.back(0);
        x.feed(1, 2, 3, 4, 5);
        x.orrery(20);
        return sum + x.fault() + x.where() + x.trouble() + x.now(2);
    }
}
