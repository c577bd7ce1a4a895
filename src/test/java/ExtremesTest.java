import java.lang.reflect.InvocationTargetException;
import java.lang.reflect.Method;
import java.util.ArrayList;
import java.util.List;
import java.util.NoSuchElementException;

/** No call throws by itself: every call with the farthest numbers, in states that are unlike. */
public final class ExtremesTest {
    private static final int[] NUMBERS = {Integer.MIN_VALUE, Integer.MIN_VALUE + 1, -65537, -2, -1, 0, 1, 2, 5, 60, 64, 400, 5000,
        65536, 1000000, Integer.MAX_VALUE - 1, Integer.MAX_VALUE};
    private static final String BRASS = "brass oil 2 slips 50;";
    private static final String[] TEXTS = {
        "",
        BRASS + "wheel a planet teeth 4 by 3 at 1;gone a 1;gone a 2;feast f a at 1;work w takes 1 worth 1 by f;sky f every 1 from 0",
        BRASS + "wheel a thimble teeth 60 by 9 at 59;suspect a;jerked day 99;feast f a at 0",
        BRASS + "wheel a bead teeth 60 by 9 at 0;wheel b moon teeth 60 by 9 at 59;wheel c moon teeth 4 by 3 at 0;"
                + "wheel d planet teeth 59 by 1 at 0;wheel e thimble teeth 5 by 4 at 4;gone c 0;gone c 3;suspect a;"
                + "feast f a at 0,b at 0,c at 1,d at 0,e at 0;feast g a at 59;feast h b at 59;feast i c at 0;"
                + "work j takes 99 worth 99 by f;work k takes 1 worth 0 by g;work l takes 9 worth 9 by h;"
                + "work m takes 9 worth 9 by i;sky f every 400 from 400;sky g every 1 from 0"};
    private static int wrong = 0;
    private static long calls = 0;

    public static void main(String[] args) throws Exception {
        for (String text : TEXTS) {
            for (Method method : BrassYear.class.getMethods()) {
                if (method.getDeclaringClass() == BrassYear.class && !method.getName().equals("feed")) {
                    BrassYear x = new BrassYear();
                    Tapes.tell(x, text);
                    callWithAll(x, method, new ArrayList<>());
                    x.turn();
                    x.image();
                    callWithAll(x, method, new ArrayList<>());
                }
            }
        }
        System.out.println(calls + " calls with the farthest numbers, " + wrong + " threw by themselves");
        if (wrong != 0) {
            System.exit(1);
        }
    }

    private static void callWithAll(BrassYear x, Method method, List<Object> begun) throws Exception {
        if (begun.size() == method.getParameterCount()) {
            call(x, method, begun.toArray());
            return;
        }
        boolean isTruth = method.getParameterTypes()[begun.size()] == boolean.class;
        for (int i = 0; i < (isTruth ? 2 : NUMBERS.length); i++) {
            begun.add(isTruth ? (Object) (i == 1) : (Object) NUMBERS[i]);
            callWithAll(x, method, begun);
            begun.remove(begun.size() - 1);
        }
    }

    private static void call(BrassYear x, Method method, Object[] numbers) throws Exception {
        calls++;
        try {
            method.invoke(x, numbers);
        } catch (InvocationTargetException e) {
            boolean due = e.getCause() instanceof NoSuchElementException && method.getName().equals("led");
            if (!due) {
                wrong++;
                System.out.println(method.getName() + java.util.Arrays.toString(numbers) + " threw " + e.getCause());
            }
        }
    }
}
