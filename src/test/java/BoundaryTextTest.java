/** Each sentence of the Term I, and of the promises 1 to 5, that names a boundary case; due answers by hand. */
public final class BoundaryTextTest extends Sentences {
    private static final String BRASS = "brass oil 5 slips 5";
    private static final String WHEEL = BRASS + ";wheel a planet teeth 9 by 1 at 0";
    private static final String FEAST = WHEEL + ";feast f a at 1";
    private static final String WORK = FEAST + ";work w takes 1 worth 1 by f";
    private static final String SUSPECT = WHEEL + ";suspect a";
    private static final String[] NO_NAMES = {"brass", "wheel", "gone", "feast", "work", "sky", "suspect", "jerked", "smooth"};

    /** Every sort of LINE; here alone names begin with x, so that each token's sort can be told from it. */
    private static final String[] ALL = ("brass oil 5 slips 5 ; wheel xa planet teeth 9 by 1 at 0 ; wheel xb moon teeth 9 by 1 at 0 ;"
            + " gone xa 1 ; feast xf xa at 1 , xb at 2 ; work xw takes 1 worth 1 by xf ; sky xf every 1 from 1 ; suspect xb ;"
            + " jerked day 1 ; smooth day 2").split(" ");

    public static void main(String[] args) {
        tapeAndBlanks();
        words();
        wholesAndSigns();
        lines();
        goingOn();
        theEnd();
        brassLine();
        wheelLine();
        goneLine();
        feastLine();
        workLine();
        skyLine();
        suspectLine();
        seenLines();
        names();
        orderOfFaults();
        faultsOneAndTwo();
        faultThree();
        faultsFourAndFive();
        faultsSixAndSeven();
        promise1();
        promise2();
        promise3();
        promise3Anew();
        promise3Third();
        promises4And5();
        end();
    }

    private static String blanks(int count) {
        return " ".repeat(count);
    }

    private static String join(String[] tokens, int count) {
        return String.join(" ", java.util.Arrays.copyOf(tokens, count));
    }

    private static void tapeAndBlanks() {
        sentence("I", "THE TAPE has 900 bytes");
        String ahead = BRASS + ";wheel a planet teeth 9 by 1 at";
        String full = ahead + blanks(899 - ahead.length()) + "7";
        sound(full, 1);
        told(full).answers(7, "wheel", 0, 3);
        faulty(1, WHEEL + blanks(899 - WHEEL.length()) + "!#");
        faulty(4, ahead + blanks(899 - ahead.length()) + "!9");
        sound(WHEEL + ";suspect" + blanks(891 - WHEEL.length()) + "a", 1);
        faulty(2, WHEEL + ";suspect" + blanks(891 - WHEEL.length()) + "!b");
        sentence("I", "blanks, 32, part TOKENS and mean nothing else");
        sound("   brass oil   5 slips 5 ;  wheel a planet teeth 9 by 1 at 0  ;gone  a  8   ", 1);
        sound("brass oil5slips5;wheel a planet teeth9by1at0;gone a8;feast f a at1", 1);
        faulty(1, "!bra ss oil 5 slips 5");
        faulty(1, "brass oil 1 !0 slips 5");
        faulty(1, BRASS + ";wheel a !b planet teeth 9 by 1 at 0");
        for (int sign : new int[] {0, 9, 10, 13, 31, 33, 127, 128, 160, 255}) {
            faultyAt(1, WHEEL.length() + 2, WHEEL + " ;" + (char) sign);
            faultyAt(1, 0, (char) sign + WHEEL);
            faultyAt(1, 5, "brass" + (char) sign + "oil 5 slips 5");
        }
    }

    private static void words() {
        sentence("I", "WORDS of 1 to 8 small letters that stand together");
        String line = BRASS + ";wheel ";
        String rest = " planet teeth 9 by 1 at 0";
        sound(line + "z" + rest + ";gone z 1", 1);
        sound(line + "abcdefgh" + rest + ";gone abcdefgh 1", 1);
        sound(line + "zbcdefgh" + rest + ";wheel abcdefgh" + rest + ";wheel abcdefgz" + rest + ";wheel bcdefgh" + rest, 4);
        faulty(1, line + "!abcdefghi" + rest);
        faulty(1, line + "!abcdefghabcdefgh" + rest);
        faulty(1, line + "abcdefgh" + rest + ";gone !aabcdefgh 1");
        faulty(1, "!brassbrass oil 5");
        faulty(1, "!brassoil 5");
        for (char sign : new char[] {'@', 'A', 'Z', '[', '`', '{'}) {
            faultyAt(1, line.length(), line + sign + rest);
            faultyAt(1, line.length() + 1, line + "a" + sign + rest);
        }
    }

    private static void wholesAndSigns() {
        sentence("I", "WHOLES of 1 to 3 digits that do");
        told("brass oil 9 slips 100;wheel a planet teeth 009 by 001 at 000").answers(9, "now", 1);
        told("brass oil 09 slips 100;wheel a planet teeth 9 by 1 at 0").answers(9, "now", 1);
        told("brass oil 009 slips 100;wheel a planet teeth 9 by 1 at 0").answers(100, "size", 0);
        faulty(1, "brass oil !0009 slips 5");
        faulty(1, "brass oil !1000 slips 5");
        faulty(1, "brass oil !4294967297 slips 5");
        faulty(4, "brass oil !999 slips 5");
        faulty(1, "brass oil !/ slips 5");
        faulty(1, "brass oil !: slips 5");
        faulty(1, "brass oil 5!: slips 5");
        faulty(1, "brass oil !-5 slips 5");
        faulty(1, "brass oil 5!.5 slips 5");
        sentence("I", "single ones of ;,");
        faulty(1, WHEEL + ";!;gone a 1");
        faulty(1, FEAST + ",!,a at 1");
        faulty(1, FEAST + ",!;");
    }

    private static void lines() {
        sentence("I", "LINE {; LINE}");
        faulty(1, "!");
        faulty(1, "!;");
        faulty(1, "!,");
        faulty(1, "!;" + WHEEL);
        faulty(1, WHEEL + ";!");
        faulty(1, WHEEL + " ;  !");
        faulty(1, WHEEL + " !gone a 1");
        faulty(1, WHEEL + "!,gone a 1");
        sentence("I", "LINE, one of:");
        for (String word : "oil slips planet moon teeth by at takes worth every from day a orrery".split(" ")) {
            faultyAt(1, WHEEL.length() + 1, WHEEL + ";" + word);
        }
        faulty(1, WHEEL + ";!7");
    }

    private static boolean isLineWord(String token) {
        return java.util.Arrays.asList(NO_NAMES).contains(token);
    }

    /** Whether another token in that one's stead is met by FORM at its place; elsewhere it has another fault, or none. */
    private static boolean cannotStand(int k, String other) {
        String token = ALL[k];
        boolean whole = Character.isDigit(token.charAt(0));
        if (token.equals(other) || whole && other.equals("7")) {
            return false;
        }
        boolean inFeast = k > 2 && ALL[k - 2].equals("at") && (ALL[k - 4].equals("xf") || ALL[k - 4].equals(","));
        if (token.equals(";") || token.equals(",")) {
            return !(inFeast && (other.equals(";") || other.equals(",")));
        }
        boolean name = token.charAt(0) == 'x';
        return !(name && other.equals("zz")) && !(isLineWord(token) && other.equals("sky"));
    }

    private static void goingOn() {
        sentence("I", "TOKEN with which no ORRERY goes on");
        for (int k = 0; k < ALL.length; k++) {
            for (String other : new String[] {";", ",", "7", "zz", "sky", "abcdefghi", "0000", "#"}) {
                if (cannotStand(k, other)) {
                    String ahead = k == 0 ? "" : join(ALL, k) + " ";
                    faultyAt(1, ahead.length(), ahead + other + " " + String.join(" ", ALL));
                }
            }
        }
        sentence("I", "the first byte that begins no TOKEN");
        for (int k = 0; k < ALL.length; k++) {
            String ahead = join(ALL, k);
            faultyAt(1, ahead.length(), ahead + "?");
        }
    }

    /** Each text that ends behind a TOKEN of a sound one: sound itself, without a wheel, or broken off. */
    private static void theEnd() {
        sentence("I", "(the end: its place)");
        for (int k = 0; k <= ALL.length; k++) {
            for (int more = 0; more < 3; more++) {
                String text = join(ALL, k) + blanks(more);
                boolean whole = k > 0 && (k == ALL.length || ALL[k].equals(";") || ALL[k].equals(","));
                int wheels = k < 15 ? 0 : k < 25 ? 1 : 2;
                if (whole && wheels > 0) {
                    sound(text, wheels);
                } else {
                    faultyAt(whole ? 6 : 1, text.length(), text);
                }
            }
        }
    }

    private static void brassLine() {
        String wheel = ";wheel a planet teeth 9 by 1 at 0";
        sentence("I", "brass oil WHOLE slips WHOLE (0 .. 99 days; 0 .. 100 in a hundred)");
        told("brass oil 0 slips 0" + wheel).answers(0, "now", 1);
        told("brass oil 99 slips 0" + wheel).answers(99, "now", 1);
        told("brass oil 0 slips 0" + wheel).answers(0, "size", 0);
        told("brass oil 0 slips 100" + wheel).answers(100, "size", 0);
        faulty(4, "brass oil !100 slips 0" + wheel);
        faulty(4, "brass oil 0 slips !101" + wheel);
        sentence("I", "ahead of all others");
        for (int i = 1; i < NO_NAMES.length; i++) {
            faultyAt(6, 0, NO_NAMES[i]);
            faultyAt(6, 2, "  " + NO_NAMES[i] + " a;" + WHEEL);
        }
        sound(BRASS + wheel, 1);
    }

    private static void wheelLine() {
        sentence("I", "KIND: planet, moon, thimble, or bead");
        String[] kinds = {"planet", "moon", "thimble", "bead"};
        for (int kind = 0; kind < 4; kind++) {
            told(BRASS + ";wheel a " + kinds[kind] + " teeth 9 by 1 at 0").answers(kind, "wheel", 0, 0);
        }
        faulty(1, BRASS + ";wheel a !planets teeth 9");
        faulty(1, BRASS + ";wheel a !be ad teeth 9");
        faulty(1, BRASS + ";wheel a !teeth 9");
        sentence("I", "4 .. 60");
        told(BRASS + ";wheel a moon teeth 4 by 1 at 0").answers(4, "wheel", 0, 1);
        told(BRASS + ";wheel a moon teeth 60 by 1 at 0").answers(60, "wheel", 0, 1);
        faulty(4, BRASS + ";wheel a moon teeth !3 by 1 at 0");
        faulty(4, BRASS + ";wheel a moon teeth !61 by 1 at 0");
        faulty(4, BRASS + ";wheel a moon teeth !0 by 1 at 0");
        sentence("I", "1 .. 9, less than the teeth");
        told(BRASS + ";wheel a moon teeth 60 by 1 at 0").answers(1, "wheel", 0, 2);
        told(BRASS + ";wheel a moon teeth 60 by 9 at 0").answers(9, "wheel", 0, 2);
        told(BRASS + ";wheel a moon teeth 4 by 3 at 0").answers(3, "wheel", 0, 2);
        told(BRASS + ";wheel a moon teeth 9 by 8 at 0").answers(8, "wheel", 0, 2);
        told(BRASS + ";wheel a moon teeth 10 by 9 at 0").answers(9, "wheel", 0, 2);
        faulty(4, BRASS + ";wheel a moon teeth 60 by !0 at 0");
        faulty(4, BRASS + ";wheel a moon teeth 60 by !10 at 0");
        faulty(4, BRASS + ";wheel a moon teeth 4 by !4 at 0");
        faulty(4, BRASS + ";wheel a moon teeth 4 by !5 at 0");
        faulty(4, BRASS + ";wheel a moon teeth 9 by !9 at 0");
        sentence("I", "a tooth, 0 .. teeth less 1");
        told(BRASS + ";wheel a moon teeth 4 by 1 at 0").answers(0, "wheel", 0, 3);
        told(BRASS + ";wheel a moon teeth 4 by 1 at 3").answers(3, "wheel", 0, 3);
        told(BRASS + ";wheel a moon teeth 60 by 1 at 59").answers(59, "wheel", 0, 3);
        faulty(4, BRASS + ";wheel a moon teeth 4 by 1 at !4");
        faulty(4, BRASS + ";wheel a moon teeth 60 by 1 at !60");
        sentence("I", "wheel .. up to 5");
        sound(wheels(5), 5);
        faulty(5, wheels(5) + ";!wheel");
        faulty(5, wheels(5) + ";!wheel wa moon teeth 99");
    }

    private static String wheels(int count) {
        StringBuilder text = new StringBuilder(BRASS);
        for (int i = 0; i < count; i++) {
            text.append(";wheel w").append((char) ('a' + i)).append(" bead teeth 4 by 1 at 0");
        }
        return text.toString();
    }

    private static void goneLine() {
        sentence("I", "gone WHEEL WHOLE (a tooth");
        told(WHEEL + ";gone a 0").answers(1, "isGone", 0, 0);
        told(WHEEL + ";gone a 8").answers(1, "isGone", 0, 8);
        faulty(4, WHEEL + ";gone a !9");
        faulty(4, wheels(2) + ";gone wa !4");
        sentence("I", "gone .. each once");
        faulty(3, WHEEL + ";gone a 3;gone a !3");
        faulty(3, WHEEL + ";gone a 0;gone a !000");
        told(wheels(2) + ";gone wa 3;gone wb 3").answers(2, "size", 2);
        sentence("I", "gone .. up to 2 of a wheel");
        StringBuilder text = new StringBuilder(wheels(5));
        for (int i = 0; i < 5; i++) {
            text.append(";gone w").append((char) ('a' + i)).append(" 0;gone w").append((char) ('a' + i)).append(" 3");
        }
        told(text.toString()).answers(10, "size", 2);
        told(text.toString()).answers(2, "wheel", 4, 4);
        faulty(5, WHEEL + ";gone a 3;gone a 4;gone !a 5");
        faulty(5, text + ";gone !we");
    }

    private static void feastLine() {
        sentence("I", "feast NAME WHEEL at WHOLE {, WHEEL at WHOLE} (a tooth");
        told(WHEEL + ";feast f a at 0").answers(1, "now", 2);
        told(WHEEL + ";feast f a at 8").answers(8, "next", 0);
        faulty(4, WHEEL + ";feast f a at !9");
        faulty(4, wheels(2) + ";feast f wa at 3,wb at !4");
        sentence("I", "unlike wheels");
        String five = wheels(5) + ";feast f wa at 0,wb at 0,wc at 0,wd at 0,we at 0";
        told(five).answers(1, "now", 2);
        faulty(3, five + ",!wa at 0");
        faulty(3, FEAST + ",!a at 2");
        sound(FEAST + ";feast g a at 1", 1);
        sentence("I", "up to 4 feasts");
        String four = FEAST + ";feast g a at 1;feast h a at 1;feast i a at 1";
        told(four).answers(4, "size", 3);
        faulty(5, four + ";!feast");
        faulty(5, four + ";!feast f b at 99");
    }

    private static void workLine() {
        sentence("I", "work NAME takes WHOLE worth WHOLE by FEAST (1 .. 99 days");
        told(FEAST + ";work w takes 1 worth 5 by f").answers(1, "work", 0, 0);
        told(FEAST + ";work w takes 99 worth 5 by f").answers(99, "work", 0, 0);
        faulty(4, FEAST + ";work w takes !0 worth 5 by f");
        faulty(4, FEAST + ";work w takes !100 worth 5 by f");
        sentence("I", "work .. 0 .. 99");
        told(FEAST + ";work w takes 5 worth 0 by f").answers(0, "work", 0, 1);
        told(FEAST + ";work w takes 5 worth 99 by f").answers(99, "work", 0, 1);
        faulty(4, FEAST + ";work w takes 5 worth !100 by f");
        sentence("I", "work .. up to 4");
        String four = WORK + ";work x takes 1 worth 1 by f;work y takes 1 worth 1 by f;work z takes 2 worth 1 by f";
        told(four).answers(4, "size", 4);
        told(four).answers(2, "work", 3, 0);
        faulty(5, four + ";!work");
        faulty(5, four + ";!work z takes 0");
    }

    private static void skyLine() {
        sentence("I", "sky FEAST every WHOLE from WHOLE (1 .. 400; 0 .. 400");
        sound(FEAST + ";sky f every 1 from 0", 1);
        sound(FEAST + ";sky f every 400 from 400", 1);
        faulty(4, FEAST + ";sky f every !0 from 0");
        faulty(4, FEAST + ";sky f every !401 from 0");
        faulty(4, FEAST + ";sky f every 1 from !401");
        sentence("I", "sky .. each feast once");
        String four = FEAST + ";feast g a at 1;feast h a at 1;feast i a at 1;sky f every 1 from 1;sky i every 1 from 1;"
                + "sky h every 1 from 1;sky g every 1 from 1";
        told(four).answers(4, "size", 5);
        faulty(3, four + ";sky !i");
        faulty(3, FEAST + ";sky f every 1 from 1;sky !f every 0");
    }

    private static void suspectLine() {
        sentence("I", "suspect WHEEL (once");
        told(SUSPECT).answers(1, "size", 6);
        faulty(3, SUSPECT + ";!suspect a");
        faulty(3, SUSPECT + ";!suspect b");
        faulty(3, wheels(2) + ";suspect wa;!suspect wb");
        sentence("I", "no tooth of it is told to be gone, neither ahead nor behind");
        faulty(7, WHEEL + ";gone a 3;suspect !a");
        faulty(7, SUSPECT + ";gone !a 3");
        sound(wheels(2) + ";gone wa 1;gone wa 2;suspect wb;jerked day 1", 2);
        sound(wheels(2) + ";suspect wb;gone wa 1;gone wa 2", 2);
    }

    private static void seenLines() {
        sentence("I", "jerked day WHOLE, or smooth day WHOLE (of the suspect; 1 .. 99");
        for (String sort : new String[] {"jerked", "smooth"}) {
            told(SUSPECT + ";" + sort + " day 1").answers(1, "size", 7);
            told(SUSPECT + ";" + sort + " day 99").answers(1, "size", 7);
            faulty(4, SUSPECT + ";" + sort + " day !0");
            faulty(4, SUSPECT + ";" + sort + " day !100");
            faulty(6, WHEEL + ";!" + sort + " day 1");
        }
        sentence("I", "each day once of both");
        for (String sort : new String[] {"jerked", "smooth"}) {
            faulty(3, SUSPECT + ";" + sort + " day 7;smooth day !7");
            faulty(3, SUSPECT + ";" + sort + " day 7;jerked day !007");
            faulty(3, SUSPECT + ";smooth day 1;jerked day 2;jerked day 3;" + sort + " day 99;jerked day !99");
            sound(SUSPECT + ";" + sort + " day 7;smooth day 8;jerked day 6", 1);
        }
        sentence("I", "jerked, smooth .. up to 5");
        String five = SUSPECT + ";jerked day 1;smooth day 2;jerked day 3;smooth day 4;smooth day 5";
        told(five).answers(5, "size", 7);
        faulty(5, five + ";!jerked");
        faulty(5, five + ";!smooth day 5");
        faulty(5, five + ";!smooth day 100");
    }

    private static void names() {
        sentence("I", "NAMES are WORDS but brass, wheel, gone, feast, work, sky, suspect, jerked, smooth");
        for (String no : NO_NAMES) {
            faulty(1, BRASS + ";wheel !" + no + " planet teeth 9 by 1 at 0");
            faulty(1, WHEEL + ";feast !" + no + " a at 1");
            faulty(1, FEAST + ";work !" + no + " takes 1 worth 1 by f");
            faulty(1, WHEEL + ";gone !" + no + " 1");
            faulty(1, WHEEL + ";feast f !" + no + " at 1");
            faulty(1, FEAST + ",!" + no + " at 1");
            faulty(1, FEAST + ";work w takes 1 worth 1 by !" + no);
            faulty(1, FEAST + ";sky !" + no + " every 1 from 1");
            faulty(1, WHEEL + ";suspect !" + no);
        }
        for (String name : "oil slips planet moon thimble bead teeth by at takes worth every from day sk skyy bras".split(" ")) {
            sound(BRASS + ";wheel " + name + " planet teeth 9 by 1 at 0;gone " + name + " 1;feast f " + name + " at 1", 1);
            sound(WHEEL + ";feast " + name + " a at 1;work w takes 1 worth 1 by " + name + ";sky " + name + " every 1 from 1", 1);
            sound(FEAST + ";work " + name + " takes 1 worth 1 by f", 1);
        }
        String last = ";feast fa wa at 0;feast fb wa at 0;feast fc wa at 0;work ka takes 1 worth 1 by fa;work kb takes 1 worth 1 by fa;"
                + "work kc takes 1 worth 1 by fa;work kd takes 1 worth 1 by fa;feast fd wa at 0";
        sound(wheels(5) + last + ";sky fd every 1 from 0;sky fa every 1 from 0;gone wa 1;gone we 1", 5);
        faulty(2, wheels(5) + last + ";sky !kd every 1 from 0");
        sentence("I", "each told once");
        String[] tell = {"wheel !X moon teeth 9 by 1 at 0", "feast !X a at 1", "work !X takes 1 worth 1 by f"};
        for (String first : tell) {
            for (String second : tell) {
                faulty(3, FEAST + ";" + first.replace("!X", "n") + ";" + second.replace("X", "n"));
            }
        }
        sentence("I", "ahead of its use");
        faulty(2, BRASS + ";gone !a 1;wheel a planet teeth 9 by 1 at 0");
        faulty(2, BRASS + ";suspect !a;wheel a planet teeth 9 by 1 at 0");
        faulty(2, BRASS + ";feast f !a at 1;wheel a planet teeth 9 by 1 at 0");
        faulty(2, WHEEL + ";work w takes 1 worth 1 by !f;feast f a at 1");
        faulty(2, WHEEL + ";sky !f every 1 from 1;feast f a at 1");
        faulty(2, WHEEL + ";feast f !f at 1");
        faulty(2, WHEEL + ";feast f a at 1,!b at 1;wheel b planet teeth 9 by 1 at 0");
    }

    private static void orderOfFaults() {
        sentence("I", "FAULTS, the first that is met from the left");
        faulty(4, "brass oil !100 slips 101;#");
        faulty(1, "brass oil 5 !sips 101");
        faulty(2, WHEEL + ";gone !b 99 ?");
        faulty(3, WHEEL + ";wheel !a sun teeth 99");
        faulty(5, WHEEL + ";gone a 1;gone a 2;gone !a 2");
        faulty(5, WHEEL + ";gone a 1;gone a 2;gone !a 9");
        faulty(6, "!wheel brass;#");
        faulty(7, SUSPECT + ";gone !a 9");
        faulty(7, SUSPECT + ";gone !a");
        faulty(6, WHEEL + ";!jerked day 0");
        faulty(3, WHEEL + ";!brass oil 100 slips 101");
        faulty(1, BRASS + ";wheel a planet teeth 9 by 1 at 0 !0;gone a 99");
        sentence("I", "of one place the least number");
        faulty(1, BRASS + ";!");
        faulty(1, BRASS + " ; !");
        faulty(1, "!");
        faulty(1, WHEEL + ";suspect !brass");
        faulty(1, WHEEL + ";gone a 1;gone a 2;gone !sky");
        faulty(2, FEAST + ";feast g a at 1,!f at 1");
        faulty(2, FEAST + ";sky f every 1 from 1;sky !a every 1 from 1");
        faulty(1, WHEEL + ";gone a 1;gone a !0001");
        faulty(1, SUSPECT + ";jerked day 1;jerked day !0001");
    }

    private static void faultsOneAndTwo() {
        sentence("I", "1 FORM: the first byte that begins no TOKEN");
        faulty(1, WHEEL + "!#;#");
        faulty(1, WHEEL + ";gone a !+1");
        sentence("I", "2 a NAME that isn't told");
        faulty(2, WHEEL + ";gone !aa 1");
        faulty(2, WHEEL + ";feast f !b at 1");
        faulty(2, FEAST + ";work w takes 1 worth 1 by !g");
        faulty(2, FEAST + ";sky !ff every 1 from 1");
        faulty(2, WHEEL + ";suspect !planet");
        sentence("I", "or is of another sort than must stand there; at it");
        for (String other : new String[] {"f", "w"}) {
            faulty(2, WORK + ";gone !" + other + " 1");
            faulty(2, WORK + ";feast g !" + other + " at 1");
            faulty(2, WORK + ";feast g a at 1,!" + other + " at 1");
            faulty(2, WORK + ";suspect !" + other);
        }
        for (String other : new String[] {"a", "w"}) {
            faulty(2, WORK + ";work v takes 1 worth 1 by !" + other);
            faulty(2, WORK + ";sky !" + other + " every 1 from 1");
        }
        faulty(2, FEAST + ";work w takes 1 worth 1 by !w");
    }

    private static void faultThree() {
        sentence("I", "3 a NAME told again; at it");
        faulty(3, WHEEL + ";wheel   !a");
        faulty(3, WORK + ";feast !w a at 1");
        faulty(3, WORK + ";work !f takes 1");
        sentence("I", "a tooth gone already, a day told already; at its WHOLE");
        faulty(3, WHEEL + ";gone a 8;gone a   !8");
        faulty(3, WHEEL + ";gone a 8;gone a   !8 #");
        faulty(3, SUSPECT + ";smooth day 99;jerked day  !99");
        faulty(3, SUSPECT + ";smooth day 99;jerked day  !99 #");
        sentence("I", "a WHEEL told of that feast already, a FEAST of the sky already; at it");
        faulty(3, wheels(2) + ";feast f wb at 1,wa at 1 ,  !wb");
        faulty(3, FEAST + ";sky f every 2 from 0;sky  !f");
        sentence("I", "a second brass, a second suspect: at that WORD");
        faulty(3, BRASS + ";!brass");
        faulty(3, BRASS + ";  !brass oil 5 slips 5");
        faulty(3, SUSPECT + ";  !suspect");
    }

    private static void faultsFourAndFive() {
        sentence("I", "4 a WHOLE out of bounds; at it");
        faulty(4, "brass oil   !100 #");
        faulty(4, WHEEL + ";gone a   !9 #");
        faulty(4, SUSPECT + ";jerked day   !0 #");
        sentence("I", "5 MANY: a LINE more of its sort than there is room for, at its first WORD");
        faulty(5, wheels(5) + ";  !wheel brass");
        faulty(5, FEAST + ";feast g a at 1;feast h a at 1;feast i a at 1;  !feast sky");
        faulty(5, WORK + ";work x takes 1 worth 1 by f;work y takes 1 worth 1 by f;work z takes 1 worth 1 by f;  !work sky");
        faulty(5, SUSPECT + ";jerked day 1;jerked day 2;jerked day 3;jerked day 4;jerked day 5;  !smooth #");
        sentence("I", "a third tooth of a wheel: at the WHEEL");
        faulty(5, WHEEL + ";gone a 1;gone a 2;gone   !a 3");
        faulty(5, WHEEL + ";gone a 1;gone a 2;gone   !a 1");
        sound(wheels(2) + ";gone wa 1;gone wa 2;gone wb 1", 2);
    }

    private static void faultsSixAndSeven() {
        sentence("I", "6 LACKS: any LINE ahead of the brass");
        faulty(6, "  !wheel a planet teeth 9 by 1 at 0;brass oil 5 slips 5");
        faulty(6, "!smooth day 1;brass oil 5 slips 5");
        sentence("I", "a jerked or smooth one ahead of the suspect; at its WORD");
        faulty(6, WHEEL + ";  !jerked day 1;suspect a");
        faulty(6, WHEEL + ";  !smooth #");
        sentence("I", "at the end: no wheel");
        faulty(6, BRASS + "!");
        faulty(6, "  " + BRASS + "   !");
        sentence("I", "7 SOUND: a tooth of the suspect told to be gone, a suspect of which one is; at the WHEEL");
        faulty(7, SUSPECT + ";gone   !a #");
        faulty(7, WHEEL + ";gone a 0;suspect   !a #");
        faulty(7, WHEEL + ";gone a 0;gone a 1;suspect !a");
    }

    private static void promise1() {
        sentence("1", "No ORRERY");
        for (int what = 0; what <= 10; what++) {
            untold().answers(0, "size", what);
        }
        untold().answers(0, "fault");
        untold().answers(BrassYear.NONE, "where");
        untold().answers(0, "trouble");
        for (String name : "soonest lineWorth inTime fits look lookLeaves turn turnBack image".split(" ")) {
            untold().refuses(1, name);
        }
        for (String name : "now comesRound idle next longestGap lineAt agree drift fitAt judge oil back".split(" ")) {
            untold().refuses(1, name, 0);
            untold().refuses(1, name, -1);
        }
        for (String name : "wheel isGone work toothIn jerks often meet byFor byIn settings value moves slips set".split(" ")) {
            untold().refuses(1, name, 0, 0);
            untold().refuses(1, name, 0, 1);
            untold().refuses(1, name, -1, -1);
        }
        untold().refuses(1, "setFor", 0, 0, 1);
        untold().refuses(1, "years", 0, 0, 0);
        untold().refuses(1, "yearFeasts", 0, 0, 0);
        untold().refuses(1, "likely", 0, 0, 0, true);
        untold().refuses(1, "jerkMean", 0, 0, false);
        untold().refuses(6, "undo");
        untold().throwsAt("led", 0);
    }

    private static void promise2() {
        sentence("2", "Twenty bytes come behind THE TAPE, of each number the highest first");
        int[] words = {0x62726173, 0x73206f69, 0x6c203520, 0x736c6970, 0x7320353b};
        untold().after("feed", words[0], words[1], words[2], words[3], words[4]).answers(20, "size", 10);
        Case fed = untold().after("feed", words[0], words[1], words[2], words[3], words[4])
                .after("feed", 0x77686565, 0x6c206120, 0x706c616e, 0x65742074, 0x65657468);
        fed.after("feed", 0x20392062, 0x79203120, 0x61742037, 0x23242526, -1).answers(1, "orrery", 52);
        fed.after("feed", 0x20392062, 0x79203120, 0x61742037, 0x23242526, -1).after("orrery", 52).answers(7, "wheel", 0, 3);
        fed.after("feed", 0x20392062, 0x79203120, 0x61742037, 0x23242526, -1).after("orrery", 53).answers(52, "where");
        untold().after("feed", 0x20202020, 0x20202020, 0x20202020, 0x20202020, 0x202020ff).after("orrery", 20).answers(19, "where");
        untold().after("feed", 0x20202020, 0x20202020, 0x20202020, 0x20202020, 0x80202020).after("orrery", 20).answers(16, "where");
        sentence("2", "how many it has");
        untold().answers(20, "feed", 0, 0, 0, 0, 0);
        untold().after("feed", 0, 0, 0, 0, 0).answers(40, "feed", 0, 0, 0, 0, 0);
        Case almost = untold().afterTimes(44, "feed", 0x20202020, 0x20202020, 0x20202020, 0x20202020, 0x20202020);
        almost.answers(900, "feed", -1, -1, -1, -1, -1);
        sentence("2", "NONE, and none comes, if there would be more than 900");
        Case full = almost.after("feed", 0x20202020, 0x20202020, 0x20202020, 0x20202020, 0x20202020);
        full.answers(BrassYear.NONE, "feed", -1, -1, -1, -1, -1);
        full.after("feed", -1, -1, -1, -1, -1).answers(900, "size", 10);
        full.after("feed", -1, -1, -1, -1, -1).after("orrery", 900).answers(900, "where");
        full.after("feed", -1, -1, -1, -1, -1).after("orrery", 900).answers(1, "fault");
        full.after("orrery", 900).answers(20, "feed", 0, 0, 0, 0, 0);
    }

    private static void promise3() {
        Case fed = untold().after("feed", 0x23202020, 0x20202020, 0x20202020, 0x20202020, 0x20202020);
        sentence("3", "NONE: 2 (THE TAPE stays)");
        for (int n : new int[] {-1, 21, Integer.MIN_VALUE, Integer.MAX_VALUE, 900, 901}) {
            fed.refuses(2, "orrery", n);
            told(SUSPECT).after("turn").after("image").refuses(2, "orrery", n);
        }
        untold().refuses(2, "orrery", 1);
        fed.after("orrery", 21).answers(20, "size", 10);
        fed.after("orrery", -1).after("orrery", 20).answers(0, "where");
        sentence("3", "The first n bytes of THE TAPE (it is empty then)");
        fed.after("orrery", 0).answers(1, "fault");
        fed.after("orrery", 0).answers(0, "where");
        fed.after("orrery", 0).answers(0, "size", 10);
        fed.after("orrery", 1).answers(0, "size", 10);
        fed.after("orrery", 20).answers(0, "where");
        fed.after("orrery", 20).refuses(2, "orrery", 1);
        told(WHEEL).answers(0, "size", 10);
        behindTheFirst();
        sentence("3", "4 (the ORRERY stays)");
        Case spoilt = told(SUSPECT + ";smooth day 1").after("turn").after("image").after("turn")
                .afterText("brass oil 9 slips 9;wheel b bead teeth 5 by 1 at 0;wheel c bead teeth 5 by 1 at 0;suspect c;#");
        spoilt.answers(4, "trouble");
        spoilt.answers(1, "size", 1);
        spoilt.answers(2, "now", 0);
        spoilt.answers(3, "now", 1);
        spoilt.answers(2, "wheel", 0, 3);
        spoilt.answers(9, "wheel", 0, 1);
        spoilt.answers(2, "size", 8);
        spoilt.answers(1, "size", 9);
        spoilt.answers(5, "size", 0);
        spoilt.answers(9, "fits");
        spoilt.after("undo").answers(1, "now", 0);
        spoilt.after("back", 0).answers(1, "now", 0);
        untold().afterText("#").answers(0, "size", 1);
        untold().afterText("#").refuses(1, "now", 0);
    }

    /** What stands on THE TAPE behind the first n bytes is no part of the text, though it may stand together with it. */
    private static void behindTheFirst() {
        BrassYear x = new BrassYear();
        Tapes.feed(x, BRASS + ";wheel ab planet teeth 12 by 11 at 11");
        due("orrery() as far as 'by 1'", x.orrery(BRASS.length() + 30), BrassYear.NONE);
        due("its fault()", x.fault(), 1);
        due("its where()", x.where(), BRASS.length() + 30);
        Tapes.feed(x, BRASS + ";wheel ab planet teeth 12 by 1 at 11");
        due("orrery() as far as 'at 1'", x.orrery(BRASS.length() + 35), 1);
        due("wheel(0, 3)", x.wheel(0, 3), 1);
        Tapes.feed(x, WHEEL + ";suspect ab");
        due("orrery() as far as 'suspect a'", x.orrery(WHEEL.length() + 10), 1);
        due("size(6)", x.size(6), 1);
        Tapes.feed(x, WHEEL + ";#");
        due("orrery() as far as 'at 0'", x.orrery(WHEEL.length()), 1);
    }

    /** What an earlier text told doesn't come back by a later one, be there others between or not. */
    private static void promise3Third() {
        String rich = "brass oil 9 slips 9;wheel n bead teeth 5 by 1 at 1;wheel m moon teeth 8 by 2 at 1;gone n 1;gone n 3;feast f n at 1,m at 1;"
                + "feast g m at 1;work u takes 1 worth 1 by f;sky f every 1 from 1;sky g every 1 from 1;suspect m;jerked day 1;smooth day 3";
        String bare = "brass oil 0 slips 0;wheel n planet teeth 6 by 1 at 0;feast f n at 1";
        sentence("3", "are the ORRERY from now on");
        Case[] ways = {told(rich).afterText(bare), told(rich).afterText(rich).afterText(bare), told(rich).afterText(bare).afterText(bare),
            told(bare).afterText(rich + ";#").afterText(bare), told(rich).after("fits").afterText(rich + ";#").afterText(bare)};
        int[] sizes = {0, 1, 0, 1, 0, 0, 0, 0, 0, 0, 0};
        for (Case way : ways) {
            for (int what = 0; what <= 10; what++) {
                way.answers(sizes[what], "size", what);
            }
            way.answers(0, "wheel", 0, 4);
            way.answers(0, "isGone", 0, 1);
            way.answers(1, "wheel", 0, 5);
            way.answers(1, "next", 0);
            way.refuses(6, "fits");
            way.refuses(6, "agree", 0);
            way.refuses(1, "wheel", 1, 0);
        }
        String oiled = "brass oil 99 slips 0;wheel n planet teeth 4 by 1 at 0;suspect n;jerked day 1;jerked day 52";
        String dry = "brass oil 0 slips 0;wheel n thimble teeth 4 by 1 at 0;suspect n;jerked day ";
        for (int day : new int[] {1, 2, 3, 4, 49, 50, 51, 52, 53, 99}) {
            told(oiled).after("fits").afterText(dry + day).answers(0, "fits");
        }
        told(oiled).answers(1, "fits");
    }

    private static void promise3Anew() {
        sentence("3", "are the ORRERY from now on (day 0; nothing to undo, no IMAGES): how many wheels");
        Case anew = told(WORK + ";gone a 3;sky f every 1 from 1;wheel b bead teeth 5 by 1 at 1;suspect b;jerked day 1")
                .after("fits").after("turn").afterTimes(3, "turn").after("image").after("oil", 50);
        anew.answers(4, "now", 0);
        Case bare = anew.afterText("brass oil 2 slips 0;wheel c moon teeth 4 by 1 at 3;suspect c");
        bare.answers(0, "trouble");
        bare.answers(0, "now", 0);
        bare.answers(2, "now", 1);
        bare.answers(0, "now", 2);
        bare.answers(0, "now", 3);
        bare.answers(3, "wheel", 0, 3);
        bare.answers(0, "wheel", 0, 4);
        bare.answers(0, "isGone", 0, 3);
        bare.answers(0, "wheel", 0, 5);
        bare.answers(5, "fits");
        int[] sizes = {0, 1, 0, 0, 0, 0, 1, 0, 0, 0, 0};
        for (int what = 0; what <= 10; what++) {
            bare.answers(sizes[what], "size", what);
        }
        bare.refuses(6, "undo");
        bare.refuses(1, "back", 0);
        bare.answers(0, "image");
        bare.refuses(1, "next", 0);
        bare.refuses(1, "wheel", 1, 0);
        bare.afterText(FEAST).refuses(6, "agree", 0);
        anew.afterText(FEAST).refuses(6, "agree", 0);
        sound(wheels(1), 1);
        sound(wheels(5), 5);
    }

    private static void promises4And5() {
        Case faulty = untold().afterText("brass oil 100");
        Case soundAgain = faulty.afterText(WHEEL);
        sentence("4", "The FAULT of the latest orrery() not refused by 2");
        faulty.answers(4, "fault");
        faulty.after("orrery", 1).answers(4, "fault");
        faulty.after("orrery", -1).after("now", 0).answers(4, "fault");
        faulty.afterText("#").answers(1, "fault");
        soundAgain.after("orrery", 1).answers(0, "fault");
        sentence("4", "0 without one");
        untold().answers(0, "fault");
        untold().after("orrery", 1).answers(0, "fault");
        soundAgain.answers(0, "fault");
        sentence("5", "Its place, if the latest call that may be refused was by 4");
        faulty.answers(10, "where");
        faulty.after("where").answers(10, "where");
        faulty.after("fault").after("trouble").after("size", 1).after("size", -1).answers(10, "where");
        faulty.after("feed", 0, 0, 0, 0, 0).after("led", 0).answers(10, "where");
        faulty.afterText("brass").answers(5, "where");
        sentence("5", "NONE else");
        untold().answers(BrassYear.NONE, "where");
        faulty.after("orrery", 1).answers(BrassYear.NONE, "where");
        faulty.after("turn").answers(BrassYear.NONE, "where");
        faulty.after("undo").answers(BrassYear.NONE, "where");
        soundAgain.answers(BrassYear.NONE, "where");
        soundAgain.afterText("brass").answers(5, "where");
        soundAgain.afterText("brass").after("now", 0).answers(BrassYear.NONE, "where");
        soundAgain.afterText("brass").after("set", 0, 3).answers(BrassYear.NONE, "where");
    }
}
