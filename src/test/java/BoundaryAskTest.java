/** Each sentence of the promises 23 to 39, and of the Term III for them, that names a boundary case; due answers by hand. */
public final class BoundaryAskTest extends Sentences {
    private static final int LEAST = Integer.MIN_VALUE;
    private static final int MOST = Integer.MAX_VALUE;
    private static final int NEVER = -2;

    private static final String DRY = "brass oil 0 slips 0;";
    private static final String BARE = DRY + "wheel a planet teeth 4 by 1 at 0";
    /** The feast f is on in 3 days, g in 6, h each day, i never. */
    private static final String DUE = DRY + "wheel a planet teeth 9 by 1 at 0;wheel b thimble teeth 4 by 1 at 0;gone b 3;"
            + "feast f a at 3;feast g a at 6;feast h b at 0;feast i b at 3";
    /** On once in 156,350 days: on day 5,000. */
    private static final String LAST = DRY + "wheel a planet teeth 50 by 1 at %d;wheel b planet teeth 53 by 1 at %d;"
            + "wheel c planet teeth 59 by 1 at %d;feast f a at 0,b at 0,c at 44;";

    public static void main(String[] args) {
        inTimeOrNot();
        orderOfWorks();
        promises23To25();
        promise26();
        promise27();
        promise28();
        promise29();
        promises30And31();
        promise32();
        promise33();
        promise34();
        promise35();
        promise36();
        yearsByDraws();
        promises37To39();
        yearsRefused();
        end();
    }

    private static void no(Case c, int trouble, int count, String name, Object... rest) {
        for (int no : new int[] {-1, count, LEAST, MOST}) {
            Object[] all = new Object[rest.length + 1];
            all[0] = no;
            System.arraycopy(rest, 0, all, 1, rest.length);
            c.refuses(trouble, name, all);
        }
    }

    private static void line(Case c, int worth, int inTime, int... order) {
        c.answers(worth, "lineWorth");
        c.answers(inTime, "inTime");
        for (int i = 0; i < order.length; i++) {
            c.answers(order[i], "lineAt", i);
        }
        c.refuses(1, "lineAt", order.length);
    }

    private static void inTimeOrNot() {
        sentence("III", "one is in time if it is done behind no more days than its feast is NEXT in");
        line(told(DUE + ";work u takes 3 worth 5 by f"), 5, 1, 0);
        line(told(DUE + ";work u takes 4 worth 5 by f"), 0, 0, 0);
        line(told(DUE + ";work u takes 1 worth 5 by h"), 5, 1, 0);
        line(told(DUE + ";work u takes 2 worth 5 by h"), 0, 0, 0);
        line(told(DUE + ";work u takes 3 worth 5 by f").after("turn"), 0, 0, 0);
        line(told(DUE + ";work u takes 3 worth 0 by f"), 0, 1, 0);
        line(told(DUE + ";work u takes 3 worth 5 by f;work v takes 3 worth 5 by g"), 10, 3, 0, 1);
        line(told(DUE + ";work u takes 3 worth 5 by f;work v takes 4 worth 6 by g"), 6, 2, 1, 0);
        String far = DRY + "wheel a planet teeth 9 by 1 at 0;wheel b moon teeth 11 by 1 at 0;feast f a at 0,b at 0;work u takes 99 worth 99 by f";
        line(told(far), 99, 1, 0);
        line(told(far).after("turn"), 0, 0, 0);
        String farthest = String.format(LAST, 0, 35, 0) + "work u takes 99 worth 99 by f";
        line(told(farthest), 99, 1, 0);
        sentence("III", "(never, if it isn't)");
        line(told(DUE + ";work u takes 1 worth 5 by i"), 0, 0, 0);
        line(told(String.format(LAST, 49, 34, 58) + "work u takes 1 worth 99 by f"), 0, 0, 0);
    }

    private static void orderOfWorks() {
        sentence("III", "the order of all works by which most worth is in time");
        line(told(DUE + ";work u takes 4 worth 1 by g;work v takes 3 worth 1 by f;work w takes 3 worth 1 by g;work x takes 9 worth 9 by f"),
                2, 6, 1, 2, 0, 3);
        line(told(DUE + ";work u takes 6 worth 9 by g;work v takes 3 worth 5 by f;work w takes 3 worth 5 by g"), 10, 6, 1, 2, 0);
        line(told(DUE + ";work u takes 1 worth 1 by g;work v takes 2 worth 1 by g;work w takes 2 worth 1 by f;work x takes 1 worth 1 by h"),
                4, 15, 3, 2, 0, 1);
        sentence("III", "of like ones the first by works");
        line(told(DUE + ";work u takes 9 worth 9 by f;work v takes 9 worth 9 by f;work w takes 9 worth 9 by f;work x takes 9 worth 9 by f"),
                0, 0, 0, 1, 2, 3);
        line(told(DUE + ";work u takes 9 worth 9 by f;work v takes 9 worth 9 by f;work w takes 9 worth 9 by f;work x takes 3 worth 9 by f"),
                9, 8, 3, 0, 1, 2);
        line(told(DUE + ";work u takes 9 worth 9 by f;work v takes 3 worth 9 by f;work w takes 3 worth 9 by f"), 9, 2, 1, 0, 2);
        line(told(DUE + ";work u takes 9 worth 0 by f;work v takes 1 worth 0 by f"), 0, 0, 0, 1);
        line(told(DUE + ";work u takes 1 worth 7 by f;work v takes 1 worth 7 by f;work w takes 1 worth 0 by f"), 14, 7, 0, 1, 2);
    }

    private static void promises23To25() {
        Case two = told(DUE + ";work u takes 3 worth 5 by f;work v takes 3 worth 5 by g");
        sentence("23", "LINE: the worth that is in time. NONE: 1 (no ORRERY)");
        told(BARE).answers(0, "lineWorth");
        untold().refuses(1, "lineWorth");
        sentence("24", "The i-th work of it. NONE: 1");
        no(two, 1, 2, "lineAt");
        two.refuses(1, "lineAt", 4);
        told(BARE).refuses(1, "lineAt", 0);
        untold().refuses(1, "lineAt", 0);
        two.answers(1, "lineAt", 1);
        sentence("25", "Works that are in time by it, as bits. NONE: 1 (no ORRERY)");
        told(BARE).answers(0, "inTime");
        untold().refuses(1, "inTime");
    }

    private static void promise26() {
        String each = DUE + ";sky h every %d from %d";
        sentence("26", "In how many days (0 .. 5,000; 0 NOW) a feast is on by brass and sky first");
        told(String.format(each, 1, 0)).answers(0, "agree", 2);
        told(String.format(each, 400, 0)).answers(0, "agree", 2);
        told(String.format(each, 400, 0)).after("turn").answers(399, "agree", 2);
        told(String.format(each, 1, 400)).answers(400, "agree", 2);
        told(String.format(each, 400, 400)).answers(400, "agree", 2);
        told(String.format(each, 400, 400)).after("turn").answers(399, "agree", 2);
        told(String.format(each, 3, 1)).answers(1, "agree", 2);
        told(String.format(each, 3, 1)).afterTimes(2, "turn").answers(2, "agree", 2);
        told(DUE + ";sky f every 10 from 0").answers(30, "agree", 0);
        told(DUE + ";sky f every 10 from 0").after("turn").answers(29, "agree", 0);
        told(DUE + ";sky f every 1 from 0").answers(3, "agree", 0);
        told(DUE + ";sky f every 1 from 0").afterTimes(3, "turn").answers(0, "agree", 0);
        told(DUE + ";sky f every 1 from 4").answers(12, "agree", 0);
        told(String.format(LAST, 0, 35, 0) + "sky f every 400 from 200").answers(5000, "agree", 0);
        told(String.format(LAST, 49, 34, 58) + "sky f every 1 from 0").after("turn").answers(5000, "agree", 0);
        told(DRY + "wheel a bead teeth 4 by 1 at 0;feast f a at 1;sky f every 400 from 1").after("turn").after("turn").answers(399, "agree", 0);
        sentence("26", "-2");
        told(String.format(LAST, 49, 34, 58) + "sky f every 1 from 0").answers(NEVER, "agree", 0);
        told(String.format(LAST, 0, 35, 0) + "sky f every 400 from 201").answers(NEVER, "agree", 0);
        told(DUE + ";sky f every 9 from 0").answers(NEVER, "agree", 0);
        told(DUE + ";sky i every 1 from 0").answers(NEVER, "agree", 3);
        sentence("26", "NONE: 1");
        no(told(DUE + ";sky h every 1 from 0"), 1, 4, "agree");
        untold().refuses(1, "agree", 0);
        told(BARE).refuses(1, "agree", 0);
        sentence("26", "6 (the sky says nothing of it)");
        for (int f = 0; f < 4; f++) {
            told(DUE).refuses(6, "agree", f);
        }
        told(DUE + ";sky h every 1 from 0").refuses(6, "agree", 3);
    }

    private static void promise27() {
        sentence("27", "How many days the NEXT feast by brass is from the nearest by the sky");
        int[][] skies = {{1, 0, 0}, {1, 3, 0}, {1, 4, 1}, {10, 3, 0}, {10, 1, 2}, {6, 0, 3}, {5, 0, 2}, {4, 0, 1}, {400, 0, 3},
            {400, 400, 397}, {7, 2, 1}, {2, 0, 1}, {400, 2, 1}, {9, 399, 396}};
        for (int[] sky : skies) {
            told(DUE + ";sky f every " + sky[0] + " from " + sky[1]).answers(sky[2], "drift", 0);
        }
        told(DUE + ";sky h every 400 from 0").answers(1, "drift", 2);
        told(DUE + ";sky h every 400 from 0").afterTimes(198, "turn").answers(199, "drift", 2);
        told(DUE + ";sky h every 400 from 0").afterTimes(199, "turn").answers(200, "drift", 2);
        told(DUE + ";sky h every 400 from 0").afterTimes(200, "turn").answers(199, "drift", 2);
        told(DUE + ";sky f every 10 from 3").afterTimes(3, "turn").answers(1, "drift", 0);
        told(String.format(LAST, 0, 35, 0) + "sky f every 400 from 201").answers(1, "drift", 0);
        sentence("27", "-2 it isn't NEXT");
        told(DUE + ";sky i every 1 from 0").answers(NEVER, "drift", 3);
        told(String.format(LAST, 49, 34, 58) + "sky f every 1 from 0").answers(NEVER, "drift", 0);
        sentence("27", "NONE: 1; 6");
        no(told(DUE + ";sky h every 1 from 0"), 1, 4, "drift");
        untold().refuses(1, "drift", 0);
        told(DUE + ";sky h every 1 from 0").refuses(6, "drift", 0);
        told(DUE).refuses(6, "drift", 3);
    }

    private static String suspect(int oil, String kind, int teeth, int at, String seen) {
        return "brass oil " + oil + " slips 0;wheel z planet teeth 4 by 1 at 0;wheel a " + kind + " teeth " + teeth + " by 1 at " + at
                + ";suspect a" + seen;
    }

    private static void fitsOf(String text, int... teeth) {
        told(text).answers(teeth.length, "fits");
        for (int i = 0; i < teeth.length; i++) {
            told(text).answers(teeth[i], "fitAt", i);
        }
        told(text).refuses(1, "fitAt", teeth.length);
    }

    private static void promise28() {
        sentence("28", "FITS: how many, none gone among them");
        told(suspect(0, "planet", 60, 0, "")).answers(61, "fits");
        fitsOf(suspect(0, "planet", 4, 0, ""), 0, 1, 2, 3, NEVER);
        fitsOf(suspect(0, "planet", 4, 0, ";smooth day 1"), 0, 2, 3, NEVER);
        fitsOf(suspect(0, "planet", 4, 0, ";jerked day 1"), 1);
        fitsOf(suspect(0, "planet", 4, 0, ";jerked day 4"), 0, 1);
        fitsOf(suspect(0, "planet", 4, 0, ";jerked day 1;jerked day 2"));
        fitsOf(suspect(0, "moon", 4, 0, ";jerked day 1"), 3);
        sentence("III", "that day's TURN, the first TURN being that of day 1");
        fitsOf(suspect(0, "planet", 4, 0, ";jerked day 99"), 3);
        fitsOf(suspect(99, "thimble", 4, 0, ";jerked day 99"), 3);
        fitsOf(suspect(98, "thimble", 4, 0, ";jerked day 99"));
        fitsOf(suspect(98, "thimble", 4, 0, ";smooth day 99"), 0, 1, 2, 3, NEVER);
        fitsOf(suspect(1, "thimble", 4, 0, ";jerked day 1"), 1);
        fitsOf(suspect(0, "thimble", 4, 0, ";jerked day 1"));
        fitsOf(suspect(0, "bead", 4, 0, ";jerked day 1"), 1);
        fitsOf(suspect(0, "bead", 4, 0, ";jerked day 2"));
        fitsOf(suspect(0, "bead", 4, 0, ";jerked day 3"), 2);
        fitsOf(suspect(0, "bead", 4, 0, ";jerked day 99"), 2);
        fitsOf(suspect(0, "planet", 4, 0, ";jerked day 51;jerked day 99;jerked day 48"), 3);
        fitsOf(suspect(0, "thimble", 4, 0, ";jerked day 50"));
        fitsOf(suspect(0, "thimble", 4, 0, ";smooth day 49;smooth day 50;smooth day 51"), 0, 1, 2, 3, NEVER);
        sentence("III", "from day 0, all as told at first");
        Case moved = told(suspect(1, "thimble", 4, 0, ";jerked day 1")).after("turn").after("set", 1, 3).after("oil", 50);
        moved.answers(1, "fits");
        moved.answers(1, "fitAt", 0);
        moved.answers(NEVER, "judge", 1);
        sentence("III", "In all else the suspect has no tooth gone");
        Case jerked = told(suspect(0, "planet", 4, 0, ";jerked day 1"));
        jerked.answers(0, "turn");
        jerked.answers(1, "toothIn", 1, 1);
        jerked.answers(0, "jerks", 1, 5000);
        jerked.answers(0, "size", 2);
        jerked.answers(4, "comesRound", 1);
        sentence("28", "NONE: 1 (no ORRERY)");
        untold().refuses(1, "fits");
        sentence("28", "6 (no suspect)");
        told(BARE).refuses(6, "fits");
    }

    private static void promise29() {
        sentence("29", "The i-th tooth, by numbers (none gone, if it fits, behind all: -2)");
        told(suspect(0, "planet", 60, 0, "")).answers(0, "fitAt", 0);
        told(suspect(0, "planet", 60, 0, "")).answers(59, "fitAt", 59);
        told(suspect(0, "planet", 60, 0, "")).answers(NEVER, "fitAt", 60);
        sentence("29", "NONE: 1 (i, too)");
        no(told(suspect(0, "planet", 60, 0, "")), 1, 61, "fitAt");
        no(told(suspect(0, "planet", 4, 0, ";jerked day 1")), 1, 1, "fitAt");
        no(told(suspect(0, "thimble", 4, 0, ";jerked day 1")), 1, 0, "fitAt");
        untold().refuses(1, "fitAt", 0);
        sentence("29", "6");
        told(BARE).refuses(6, "fitAt", 0);
    }

    private static void look(String text, int day, int leaves) {
        told(text).answers(day, "look");
        told(text).answers(leaves, "lookLeaves");
    }

    private static void promises30And31() {
        sentence("III", "LOOK: the day (1 .. 99) by which, it being told whether it JERKED, at most fewest FITS are left, the first such");
        look(suspect(0, "planet", 4, 0, ""), 4, 3);
        look(suspect(0, "planet", 4, 0, ";jerked day 4"), 1, 1);
        look(suspect(0, "planet", 4, 0, ";smooth day 4;smooth day 1"), 2, 2);
        look(suspect(0, "planet", 4, 0, ";jerked day 1"), 1, 1);
        look(suspect(0, "thimble", 4, 0, ""), 1, 5);
        look(suspect(0, "bead", 50, 2, ""), 99, 49);
        look(suspect(0, "bead", 51, 2, ""), 1, 51);
        look(suspect(98, "thimble", 60, 0, ";smooth day 60;smooth day 1"), 2, 58);
        sentence("30", "LOOK; -2 without FITS");
        told(suspect(0, "thimble", 4, 0, ";jerked day 1")).answers(NEVER, "look");
        sentence("31", "How many are left at most then; -2 likewise");
        told(suspect(0, "thimble", 4, 0, ";jerked day 1")).answers(NEVER, "lookLeaves");
        for (String name : new String[] {"look", "lookLeaves"}) {
            sentence(name.equals("look") ? "30" : "31", "NONE: 1 (no ORRERY); 6");
            untold().refuses(1, name);
            told(BARE).refuses(6, name);
        }
    }

    private static void promise32() {
        Case two = told(suspect(0, "planet", 4, 0, ";jerked day 2;jerked day 1"));
        sentence("32", "The first seen, as told, that isn't so if a tooth (0 .. its teeth; as many as these: none) is gone; -2");
        two.answers(0, "judge", 0);
        two.answers(0, "judge", 1);
        two.answers(1, "judge", 2);
        two.answers(0, "judge", 3);
        two.answers(0, "judge", 4);
        told(suspect(0, "planet", 4, 0, "")).answers(NEVER, "judge", 0);
        told(suspect(0, "planet", 4, 0, "")).answers(NEVER, "judge", 4);
        told(suspect(0, "planet", 60, 0, ";smooth day 1")).answers(NEVER, "judge", 60);
        told(suspect(0, "planet", 60, 0, ";jerked day 59")).answers(NEVER, "judge", 59);
        told(suspect(0, "planet", 60, 0, ";jerked day 99")).answers(0, "judge", 60);
        told(suspect(0, "planet", 4, 0, ";smooth day 1;smooth day 2;smooth day 3;smooth day 5;smooth day 4")).answers(4, "judge", 0);
        told(suspect(0, "planet", 4, 0, ";smooth day 1;smooth day 2;smooth day 3;smooth day 5;smooth day 4")).answers(NEVER, "judge", 4);
        sentence("32", "NONE: 1 (no ORRERY); 6; 2");
        untold().refuses(1, "judge", 0);
        untold().refuses(1, "judge", -1);
        told(BARE).refuses(6, "judge", 0);
        told(BARE).refuses(6, "judge", -1);
        told(BARE).refuses(6, "judge", 99);
        no(two, 2, 5, "judge");
        no(told(suspect(0, "planet", 60, 0, "")), 2, 61, "judge");
    }

    /** The feast f is on NOW; by a TURN it JERKS onto the same tooth, by a TURN BACK it leaves. */
    private static final String STAYS = DRY + "wheel a planet teeth 4 by 3 at 0;gone a 3;feast f a at 0;feast g a at 1;feast h a at 2";

    private static void promise33() {
        sentence("III", "DEBTOR and CREDITOR by turns, the debtor first, n moves (0 .. 6)");
        told(STAYS).answers(0, "value", 0, 0);
        told(STAYS).answers(1, "value", 0, 1);
        told(STAYS).answers(2, "value", 0, 2);
        told(DUE).answers(6, "value", 2, 6);
        told(DUE).answers(5, "value", 2, 5);
        told(DUE).answers(0, "value", 3, 6);
        told(DRY + "wheel a planet teeth 4 by 1 at 0;feast f a at 1").answers(0, "value", 0, 1);
        told(DRY + "wheel a planet teeth 4 by 1 at 0;feast f a at 1").answers(1, "value", 0, 2);
        sentence("III", "or TURNS BACK (not on day 0)");
        told(DRY + "wheel a planet teeth 4 by 1 at 0;feast f a at 3").answers(0, "value", 0, 2);
        told(STAYS).answers(0, "value", 1, 2);
        told(STAYS).after("turn").answers(1, "value", 1, 2);
        told(STAYS).answers(1, "value", 0, 1);
        told(STAYS).after("turn").answers(0, "value", 0, 1);
        sentence("III", "the creditor wants as many moves as may be behind which the feast is on, the debtor as few: VALUE");
        told(STAYS).after("turn").answers(1, "value", 0, 2);
        told(DRY + "wheel a planet teeth 9 by 1 at 0;feast f a at 1").answers(1, "value", 0, 2);
        told(DRY + "wheel a planet teeth 9 by 1 at 0;feast f a at 1").answers(1, "value", 0, 3);
        told("brass oil 1 slips 0;wheel a thimble teeth 9 by 1 at 0;feast f a at 1").answers(1, "value", 0, 2);
        told("brass oil 1 slips 0;wheel a thimble teeth 9 by 1 at 0;feast f a at 1").answers(2, "value", 0, 3);
        sentence("33", "NONE: 1; 2");
        no(told(DUE), 1, 4, "value", 0);
        no(told(DUE), 1, 4, "value", 7);
        for (int no : new int[] {-1, 7, LEAST, MOST}) {
            told(DUE).refuses(2, "value", 0, no);
        }
        told(BARE).refuses(1, "value", 0, 0);
    }

    private static void promise34() {
        sentence("34", "What the debtor does first, playing best, the first such: 0 TURN, 1 let be, 2 TURN BACK");
        told(STAYS).answers(0, "moves", 0, 1);
        told(STAYS).after("turn").answers(2, "moves", 0, 1);
        told(STAYS).answers(1, "moves", 1, 2);
        told(STAYS).after("turn").answers(0, "moves", 1, 2);
        told(DRY + "wheel a planet teeth 4 by 1 at 0;feast f a at 1").answers(1, "moves", 0, 1);
        told(DRY + "wheel a planet teeth 4 by 1 at 0;feast f a at 0").answers(0, "moves", 0, 1);
        told(DRY + "wheel a planet teeth 4 by 1 at 0;feast f a at 2").answers(0, "moves", 0, 1);
        told(DRY + "wheel a planet teeth 9 by 1 at 0;feast f a at 2").answers(1, "moves", 0, 2);
        told(DRY + "wheel a planet teeth 9 by 1 at 0;feast f a at 3").afterTimes(2, "turn").answers(2, "moves", 0, 2);
        told(DUE).answers(0, "moves", 2, 6);
        told(DUE).after("turn").answers(0, "moves", 2, 6);
        sentence("34", "NONE: 1");
        no(told(DUE), 1, 4, "moves", 1);
        no(told(DUE), 1, 4, "moves", 0);
        told(BARE).refuses(1, "moves", 0, 1);
        sentence("34", "2 (1 .. 6)");
        for (int no : new int[] {0, -1, 7, LEAST, MOST}) {
            told(DUE).refuses(2, "moves", 0, no);
        }
    }

    private static void likely(Case c, int w, int tooth, int n, long upper, long lower) {
        c.answers(upper, "likely", w, tooth, n, false);
        c.answers(lower, "likely", w, tooth, n, true);
    }

    private static void mean(Case c, int w, int n, long upper, long lower) {
        c.answers(upper, "jerkMean", w, n, false);
        c.answers(lower, "jerkMean", w, n, true);
    }

    private static void promise35() {
        Case half = told("brass oil 0 slips 50;wheel a planet teeth 60 by 1 at 0;wheel b thimble teeth 4 by 1 at 3;wheel c moon teeth 5 by 1 at 1");
        sentence("35", "How likely a tooth of a wheel is on top in n days (0 .. 6) with SLIPS");
        likely(half, 0, 0, 0, 1, 1);
        likely(half, 0, 1, 1, 1, 2);
        likely(half, 0, 6, 6, 1, 64);
        likely(half, 0, 12, 6, 1, 64);
        likely(half, 1, 3, 1, 1, 2);
        likely(half, 1, 0, 1, 1, 2);
        likely(half, 2, 0, 1, 1, 2);
        likely(half, 2, 4, 1, 1, 2);
        Case one = told("brass oil 0 slips 1;wheel a planet teeth 60 by 1 at 0");
        likely(one, 0, 12, 6, 1, 1000000000000L);
        likely(one, 0, 6, 6, 941480149401L, 1000000000000L);
        likely(told("brass oil 0 slips 99;wheel a planet teeth 60 by 1 at 0"), 0, 12, 6, 941480149401L, 1000000000000L);
        likely(told("brass oil 0 slips 0;wheel a planet teeth 60 by 9 at 59"), 0, 53, 6, 1, 1);
        likely(told("brass oil 0 slips 100;wheel a planet teeth 60 by 9 at 59"), 0, 59, 6, 1, 1);
        likely(told("brass oil 0 slips 100;wheel a planet teeth 60 by 9 at 59"), 0, 53, 6, 0, 1);
        likely(told("brass oil 5 slips 0;wheel a thimble teeth 60 by 9 at 0"), 0, 45, 6, 1, 1);
        likely(told("brass oil 0 slips 0;wheel a bead teeth 60 by 9 at 0").after("turn"), 0, 27, 5, 1, 1);
        sentence("35", "the upper WHOLE or the lower, in lowest terms (0 by 1)");
        likely(half, 0, 9, 6, 5, 16);
        likely(half, 0, 13, 6, 0, 1);
        likely(half, 0, 5, 6, 0, 1);
        likely(half, 0, 59, 0, 0, 1);
        likely(told("brass oil 0 slips 50;wheel a thimble teeth 4 by 1 at 3;gone a 0"), 0, 0, 6, 0, 1);
        sentence("35", "-1: 1; 2");
        for (boolean lower : new boolean[] {false, true}) {
            no(half, 1, 3, "likely", 0, 0, lower);
            no(half, 1, 3, "likely", -1, 7, lower);
            for (int no : new int[] {-1, 7, LEAST, MOST}) {
                half.refuses(2, "likely", 0, 0, no, lower);
            }
            for (int no : new int[] {-1, 60, 64, LEAST, MOST}) {
                half.refuses(2, "likely", 0, no, 0, lower);
            }
            half.refuses(2, "likely", 1, 4, 0, lower);
        }
        half.answers(0, "likely", 1, 2, 0, false);
    }

    private static void promise36() {
        sentence("III", "SLIPS: behind each TURN a wheel, whether it went or not, goes one tooth more its way, as likely as told");
        likely(told("brass oil 0 slips 100;wheel a bead teeth 9 by 2 at 0").after("turn"), 0, 3, 1, 1, 1);
        likely(told("brass oil 0 slips 100;wheel a moon teeth 9 by 2 at 2"), 0, 8, 1, 1, 1);
        sentence("III", "(it may JERK by the TURN, and by the SLIP again)");
        Case twice = told("brass oil 0 slips 100;wheel a planet teeth 6 by 1 at 0;gone a 1;gone a 3;wheel b thimble teeth 6 by 1 at 5;gone b 0");
        mean(twice, 0, 1, 2, 1);
        mean(twice, 0, 2, 2, 1);
        mean(twice, 1, 1, 1, 1);
        sentence("36", "The mean of how often it JERKS in them, likewise");
        mean(twice, 0, 0, 0, 1);
        mean(twice, 0, 5, 6, 1);
        mean(twice, 0, 6, 6, 1);
        mean(told("brass oil 0 slips 25;wheel a planet teeth 6 by 1 at 0;gone a 2"), 0, 1, 1, 4);
        mean(told("brass oil 0 slips 25;wheel a planet teeth 6 by 1 at 0;gone a 2"), 0, 2, 1, 1);
        mean(told("brass oil 0 slips 50;wheel a planet teeth 60 by 9 at 0"), 0, 6, 0, 1);
        mean(told("brass oil 0 slips 1;wheel a planet teeth 60 by 1 at 0;gone a 12"), 0, 6, 1, 1000000000000L);
        mean(told("brass oil 0 slips 0;wheel a planet teeth 4 by 3 at 0;gone a 3"), 0, 6, 6, 1);
        mean(told("brass oil 0 slips 0;wheel a bead teeth 4 by 3 at 0;gone a 3"), 0, 6, 3, 1);
        mean(told("brass oil 5 slips 0;wheel a thimble teeth 4 by 3 at 0;gone a 3"), 0, 6, 5, 1);
        sentence("36", "-1: 1; 2");
        for (boolean lower : new boolean[] {false, true}) {
            no(twice, 1, 2, "jerkMean", 0, lower);
            no(twice, 1, 2, "jerkMean", 7, lower);
            for (int no : new int[] {-1, 7, LEAST, MOST}) {
                twice.refuses(2, "jerkMean", 0, no, lower);
            }
        }
    }

    /** The seed 65,536 stays as it is, and is 36 mod 100; 873 leads to 12, and 45,438 to 0. */
    private static void yearsByDraws() {
        String wheel = ";wheel a planet teeth 7 by 1 at 0";
        sentence("III", "a DRAW mod 100");
        told("brass oil 0 slips 36" + wheel).answers(0, "slips", 65536, 400);
        told("brass oil 0 slips 37" + wheel).answers(400, "slips", 65536, 400);
        told("brass oil 0 slips 36" + wheel).answers(1, "years", 0, 65536, 400);
        told("brass oil 0 slips 37" + wheel).answers(2, "years", 0, 65536, 400);
        told("brass oil 0 slips 0" + wheel).answers(0, "slips", 45438, 400);
        told("brass oil 0 slips 100" + wheel).answers(400, "slips", 0, 400);
        sentence("III", "(SEED becomes (75 times SEED and 74) mod 65,537)");
        told("brass oil 0 slips 12" + wheel).answers(0, "slips", 873, 1);
        told("brass oil 0 slips 13" + wheel).answers(1, "slips", 873, 1);
        told("brass oil 0 slips 0" + wheel).answers(0, "slips", 45438, 1);
        told("brass oil 0 slips 1" + wheel).answers(1, "slips", 45438, 1);
        told("brass oil 0 slips 74" + wheel).answers(0, "slips", 0, 1);
        told("brass oil 0 slips 75" + wheel).answers(1, "slips", 0, 1);
        sentence("III", "behind each TURN for each wheel, by numbers");
        Case three = told("brass oil 1 slips 53;wheel a planet teeth 5 by 1 at 0;wheel b moon teeth 5 by 1 at 0;wheel c thimble teeth 5 by 1 at 0");
        int[][] days = {{0, 1, 2}, {0, 3, 1}, {0, 2, 3}};
        for (int w = 0; w < 3; w++) {
            for (int n = 0; n < 3; n++) {
                three.answers(days[w][n], "years", w, 0, n);
            }
        }
        three.answers(2, "slips", 0, 1);
        three.answers(4, "slips", 0, 2);
    }

    private static void promises37To39() {
        Case still = told(DUE);
        sentence("37", "The tooth of a wheel on top in n days (0 .. 400) of YEARS by a SEED (0 .. 65,536)");
        still.answers(0, "years", 0, 0, 0);
        still.answers(4, "years", 0, 0, 400);
        still.answers(4, "years", 0, 65536, 400);
        told("brass oil 2 slips 100;wheel a thimble teeth 7 by 1 at 0").answers(2, "years", 0, 5, 1);
        told("brass oil 2 slips 100;wheel a thimble teeth 7 by 1 at 0").after("turn").answers(4, "years", 0, 5, 2);
        told("brass oil 0 slips 100;wheel a planet teeth 7 by 1 at 0;gone a 1;gone a 3").answers(4, "years", 0, 5, 1);
        sentence("38", "How often a feast is on in them (not NOW)");
        still.answers(0, "yearFeasts", 2, 0, 0);
        still.answers(1, "yearFeasts", 2, 0, 1);
        still.answers(400, "yearFeasts", 2, 65536, 400);
        still.answers(0, "yearFeasts", 3, 0, 400);
        told(DUE).afterTimes(3, "turn").answers(0, "yearFeasts", 0, 0, 8);
        told(DUE).afterTimes(3, "turn").answers(1, "yearFeasts", 0, 0, 9);
        told("brass oil 0 slips 100;wheel a planet teeth 6 by 1 at 0;feast f a at 1;feast g a at 2").answers(0, "yearFeasts", 0, 0, 400);
        told("brass oil 0 slips 100;wheel a planet teeth 6 by 1 at 0;feast f a at 1;feast g a at 2").answers(134, "yearFeasts", 1, 0, 400);
        sentence("39", "How many SLIPS there are in them");
        still.answers(0, "slips", 0, 0);
        still.answers(0, "slips", 65536, 400);
        told("brass oil 0 slips 100;wheel a planet teeth 6 by 1 at 0;wheel b thimble teeth 6 by 1 at 0;wheel c bead teeth 6 by 1 at 0")
                .answers(1200, "slips", 65536, 400);
    }

    private static void yearsRefused() {
        Case years = told(DUE);
        int[] noSeeds = {-1, 65537, LEAST, MOST};
        int[] noDays = {-1, 401, LEAST, MOST};
        sentence("37", "NONE: 1; 2");
        no(years, 1, 2, "years", 0, 0);
        no(years, 1, 2, "years", -1, 401);
        sentence("38", "NONE: 1; 2");
        no(years, 1, 4, "yearFeasts", 0, 0);
        no(years, 1, 4, "yearFeasts", 65537, -1);
        for (int i = 0; i < 4; i++) {
            for (String name : new String[] {"years", "yearFeasts"}) {
                sentence(name.equals("years") ? "37" : "38", "NONE: 1; 2");
                years.refuses(2, name, 0, noSeeds[i], 1);
                years.refuses(2, name, 0, 0, noDays[i]);
                years.refuses(2, name, 0, noSeeds[i], noDays[i]);
            }
            sentence("39", "NONE: 1 (no ORRERY); 2");
            years.refuses(2, "slips", noSeeds[i], 1);
            years.refuses(2, "slips", 0, noDays[i]);
            untold().refuses(1, "slips", noSeeds[i], 1);
            untold().refuses(1, "slips", 0, noDays[i]);
        }
        untold().refuses(1, "slips", 0, 0);
    }
}
