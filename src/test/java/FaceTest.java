import java.lang.management.ManagementFactory;
import java.lang.reflect.Constructor;
import java.lang.reflect.Field;
import java.lang.reflect.Method;
import java.lang.reflect.Modifier;
import java.util.Arrays;
import java.util.Set;
import java.util.TreeSet;

/** The class has the document's face and no other, and its calls make no objects (all calls live in one room). */
public final class FaceTest {
    private static final String FACE = "int agree(int); boolean back(int); int byFor(int,int); int byIn(int,int);"
            + " int comesRound(int); int drift(int); int fault(); int feed(int,int,int,int,int); int fitAt(int);"
            + " int fits(); int idle(int); int image(); int inTime(); int isGone(int,int); int jerks(int,int);"
            + " long jerkMean(int,int,boolean); int judge(int); int led(int); long likely(int,int,int,boolean);"
            + " int lineAt(int); int lineWorth(); int longestGap(int); int look(); int lookLeaves(); int meet(int,int);"
            + " int moves(int,int); int next(int); int now(int); int often(int,int); int oil(int); int orrery(int);"
            + " boolean set(int,int); int setFor(int,int,int); int settings(int,int); int size(int); int slips(int,int);"
            + " int soonest(); int toothIn(int,int); int trouble(); int turn(); int turnBack(); boolean undo();"
            + " int value(int,int); int wheel(int,int); int where(); int work(int,int); int yearFeasts(int,int,int);"
            + " int years(int,int,int)";
    private static final String TEXT = "brass oil 3 slips 25;wheel p planet teeth 60 by 7 at 0;wheel m moon teeth 59 by 1 at 4;"
            + "wheel t thimble teeth 8 by 3 at 1;wheel b bead teeth 53 by 1 at 0;gone p 4;gone m 2;feast pp p at 2;"
            + "feast pm p at 5,m at 0;feast tt t at 2;feast pb p at 0,b at 0;work one takes 1 worth 5 by pp;"
            + "work two takes 2 worth 7 by pm;sky pp every 5 from 2;suspect b;smooth day 1;jerked day 3";
    private static int wrong = 0;

    public static void main(String[] args) {
        lookAtMembers();
        lookAtObjects();
        System.out.println(wrong == 0 ? "the face is the document's, and calls make no objects" : wrong + " wrong");
        if (wrong != 0) {
            System.exit(1);
        }
    }

    private static void check(boolean so, String what) {
        if (!so) {
            wrong++;
            System.out.println(what);
        }
    }

    private static void lookAtMembers() {
        Set<String> face = new TreeSet<>();
        Set<String> publicNames = new TreeSet<>();
        Set<String> otherNames = new TreeSet<>();
        for (Method method : BrassYear.class.getDeclaredMethods()) {
            if (Modifier.isPrivate(method.getModifiers())) {
                otherNames.add(method.getName());
            } else {
                String types = Arrays.toString(Arrays.stream(method.getParameterTypes()).map(Class::getName).toArray());
                face.add(method.getReturnType() + " " + method.getName() + "("
                        + types.substring(1, types.length() - 1).replace(" ", "") + ")");
                publicNames.add(method.getName());
                check(Modifier.isPublic(method.getModifiers()), method + " is neither public nor private");
            }
        }
        check(face.equals(new TreeSet<>(Arrays.asList(FACE.split("; ")))), "the face is " + face);
        for (Class<?> inside : BrassYear.class.getDeclaredClasses()) {
            check(Modifier.isStatic(inside.getModifiers()), inside + " isn't static");
            for (Method method : inside.getDeclaredMethods()) {
                otherNames.add(method.getName());
            }
        }
        otherNames.retainAll(publicNames);
        check(otherNames.isEmpty(), "other methods bear public names: " + otherNames);
        for (Field field : BrassYear.class.getDeclaredFields()) {
            boolean isNone = field.getName().equals("NONE") && Modifier.isPublic(field.getModifiers());
            check(isNone || Modifier.isPrivate(field.getModifiers()), field + " isn't private");
            check(!Modifier.isStatic(field.getModifiers()) || Modifier.isFinal(field.getModifiers()), field + " isn't final");
        }
        Constructor<?>[] constructors = BrassYear.class.getDeclaredConstructors();
        check(constructors.length == 1 && Modifier.isPublic(constructors[0].getModifiers())
                && constructors[0].getParameterCount() == 0, "the constructors are " + Arrays.toString(constructors));
        check(Modifier.isFinal(BrassYear.class.getModifiers()), "the class isn't final");
    }

    private static void lookAtObjects() {
        BrassYear x = new BrassYear();
        Tapes.tell(x, TEXT);
        com.sun.management.ThreadMXBean thread = (com.sun.management.ThreadMXBean) ManagementFactory.getThreadMXBean();
        long few = 0;
        for (int i = 0; i < 3; i++) {
            long before = thread.getCurrentThreadAllocatedBytes();
            callAll(x);
            few = thread.getCurrentThreadAllocatedBytes() - before;
        }
        check(few < 300, "calls made " + few + " bytes of objects");
    }

    private static long callAll(BrassYear x) {
        long sum = 0;
        for (int f = 0; f < 4; f++) {
            sum += x.next(f) + x.often(f, 5000) + x.meet(f, 3 - f) + x.longestGap(f) + x.settings(f, 5000) + x.agree(f)
                    + x.drift(f) + x.value(f, 6) + x.moves(f, 6) + x.yearFeasts(f, 5, 400);
            for (int w = 0; w < 4; w++) {
                sum += x.setFor(w, f, 77) + x.byFor(w, f) + x.byIn(w, f);
            }
        }
        for (int w = 0; w < 4; w++) {
            sum += x.wheel(w, 5) + x.isGone(w, 0) + x.toothIn(w, 1000000) + x.jerks(w, 5000) + x.comesRound(w) + x.idle(w)
                    + x.likely(w, 0, 6, true) + x.jerkMean(w, 6, true) + x.years(w, 0, 400);
        }
        sum += x.soonest() + x.lineWorth() + x.lineAt(0) + x.inTime() + x.fits() + x.fitAt(0) + x.look() + x.lookLeaves()
                + x.judge(3) + x.slips(0, 400) + x.turn() + x.turnBack() + x.oil(1) + x.image() + x.size(2) + x.work(0, 0);
        x.set(0, 7);
        x.undo();
        x.back(0);
        x.feed(1, 2, 3, 4, 5);
        x.orrery(20);
        return sum + x.fault() + x.where() + x.trouble() + x.now(2);
    }
}
