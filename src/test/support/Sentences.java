import java.util.Arrays;

/**
 * What the tests of the document's sentences share: the sentence that is looked at is told with every answer that
 * isn't due.
 */
class Sentences {
    private static final String BARE = "brass oil 7 slips 3;wheel z moon teeth 6 by 1 at 0;gone z 5";

    private static String sentence = "";
    private static int sentences = 0;
    private static int looked = 0;
    private static int wrong = 0;

    /** From here on answers are of these words of the document, which stand in that Term or Promise. */
    static void sentence(String where, String words) {
        sentence = where + ": \"" + words + "\"";
        sentences++;
    }

    static void due(String what, long got, long want) {
        looked++;
        if (got != want) {
            wrong++;
            System.out.println(sentence + ": " + what + " answered " + got + ", due is " + want);
        }
    }

    /** A text that has no fault, told to each new object of the case. */
    static Case told(String text) {
        return new Case(text);
    }

    static Case untold() {
        return new Case(null);
    }

    static void sound(String text, int wheels) {
        BrassYear x = new BrassYear();
        due("orrery() of '" + text + "'", Tapes.tell(x, text), wheels);
        due("its trouble()", x.trouble(), 0);
        due("its fault()", x.fault(), 0);
        due("its where()", x.where(), BrassYear.NONE);
    }

    /** The text must have that fault at the place that the mark ! stands ahead of (it isn't of the text). */
    static void faulty(int fault, String marked) {
        int place = marked.indexOf('!');
        faultyAt(fault, place, marked.substring(0, place) + marked.substring(place + 1));
    }

    static void faultyAt(int fault, int place, String text) {
        BrassYear x = new BrassYear();
        Tapes.tell(x, BARE);
        x.turn();
        x.image();
        x.turn();
        due("orrery() of '" + text + "'", Tapes.tell(x, text), BrassYear.NONE);
        due("trouble() of '" + text + "'", x.trouble(), 4);
        due("where() of '" + text + "'", x.where(), place);
        due("fault() of '" + text + "'", x.fault(), fault);
        long[] stays = {x.size(10), x.size(0), x.size(1), x.size(2), x.size(8), x.size(9), x.now(0), x.now(1), x.now(3), x.wheel(0, 3)};
        long[] due = {0, 3, 1, 1, 2, 1, 2, 5, 1, 3};
        due("what stays behind '" + text + "': " + Arrays.toString(stays), Arrays.equals(stays, due) ? 1 : 0, 1);
    }

    static void end() {
        System.out.println(sentences + " sentences, " + looked + " answers looked at, " + wrong + " wrong");
        if (wrong != 0 || looked == 0) {
            System.exit(1);
        }
    }
}
