/** Each sentence of the Term II, and of the promises 6 to 9, 40 and 41, that names a boundary case; due answers by hand. */
public final class BoundaryTurnTest extends Sentences {
    private static final int LEAST = Integer.MIN_VALUE;
    private static final int MOST = Integer.MAX_VALUE;

    public static void main(String[] args) {
        planetsAndMoons();
        thimblesAndBeads();
        jerks();
        oilAndDays();
        turnsBack();
        jerksBack();
        feasts();
        promise6();
        promise7();
        promise8();
        promise9();
        promise40();
        lastDay();
        promise41();
        end();
    }

    /** An orrery of one wheel, with what else is told of it. */
    private static Case one(String kind, int teeth, int by, int at, String more) {
        return told(wheelText(3, kind, teeth, by, at) + more);
    }

    private static String wheelText(int oil, String kind, int teeth, int by, int at) {
        return "brass oil " + oil + " slips 0;wheel a " + kind + " teeth " + teeth + " by " + by + " at " + at;
    }

    private static void planetsAndMoons() {
        sentence("II", "A planet goes on by so many teeth as told (upwards, behind the last the first)");
        one("planet", 4, 1, 2, "").after("turn").answers(3, "wheel", 0, 3);
        one("planet", 4, 1, 3, "").after("turn").answers(0, "wheel", 0, 3);
        one("planet", 4, 3, 3, "").after("turn").answers(2, "wheel", 0, 3);
        one("planet", 4, 3, 1, "").after("turn").answers(0, "wheel", 0, 3);
        one("planet", 60, 9, 50, "").after("turn").answers(59, "wheel", 0, 3);
        one("planet", 60, 9, 51, "").after("turn").answers(0, "wheel", 0, 3);
        one("planet", 60, 9, 59, "").after("turn").answers(8, "wheel", 0, 3);
        sentence("II", "a moon back by so many");
        one("moon", 4, 1, 1, "").after("turn").answers(0, "wheel", 0, 3);
        one("moon", 4, 1, 0, "").after("turn").answers(3, "wheel", 0, 3);
        one("moon", 4, 3, 0, "").after("turn").answers(1, "wheel", 0, 3);
        one("moon", 60, 9, 9, "").after("turn").answers(0, "wheel", 0, 3);
        one("moon", 60, 9, 8, "").after("turn").answers(59, "wheel", 0, 3);
        one("moon", 60, 9, 0, "").after("turn").answers(51, "wheel", 0, 3);
    }

    private static void thimblesAndBeads() {
        sentence("II", "a thimble like a planet on days on which there is oil ahead of the TURN, else not");
        Case thimble = told(wheelText(1, "thimble", 4, 1, 3));
        thimble.after("turn").answers(0, "wheel", 0, 3);
        thimble.after("turn").after("turn").answers(0, "wheel", 0, 3);
        thimble.after("turn").after("oil", 1).after("turn").answers(1, "wheel", 0, 3);
        thimble.after("turn").after("turn").after("oil", 1).after("turn").after("turn").answers(1, "wheel", 0, 3);
        told(wheelText(0, "thimble", 4, 1, 3)).after("turn").answers(3, "wheel", 0, 3);
        told(wheelText(99, "thimble", 60, 1, 0)).afterTimes(99, "turn").answers(39, "wheel", 0, 3);
        told(wheelText(99, "thimble", 60, 1, 0)).afterTimes(100, "turn").answers(39, "wheel", 0, 3);
        sentence("II", "a bead like a planet on days whose number (NOW's, ahead of the TURN) is even, else not");
        Case bead = one("bead", 4, 1, 2, "");
        int[] teeth = {2, 3, 3, 0, 0, 1};
        for (int day = 0; day < teeth.length; day++) {
            bead.afterTimes(day, "turn").answers(teeth[day], "wheel", 0, 3);
        }
        one("bead", 4, 3, 3, "").after("turn").answers(2, "wheel", 0, 3);
    }

    private static void jerks() {
        sentence("II", "If then a tooth that is gone is on top, it JERKS: it goes one further that way");
        one("planet", 5, 2, 0, ";gone a 2").after("turn").answers(3, "wheel", 0, 3);
        one("planet", 5, 2, 0, ";gone a 1").answers(0, "turn");
        one("planet", 5, 2, 0, ";gone a 1").after("turn").answers(2, "wheel", 0, 3);
        one("planet", 5, 2, 2, ";gone a 4").after("turn").answers(0, "wheel", 0, 3);
        one("moon", 5, 2, 4, ";gone a 2").after("turn").answers(1, "wheel", 0, 3);
        one("moon", 5, 2, 4, ";gone a 3").after("turn").answers(2, "wheel", 0, 3);
        one("moon", 5, 2, 2, ";gone a 0").after("turn").answers(4, "wheel", 0, 3);
        one("moon", 5, 2, 3, ";gone a 1").after("turn").answers(0, "wheel", 0, 3);
        one("planet", 5, 2, 1, ";gone a 3").after("turn").answers(4, "wheel", 0, 3);
        one("thimble", 5, 2, 2, ";gone a 4").after("turn").answers(0, "wheel", 0, 3);
        one("bead", 5, 2, 2, ";gone a 4").after("turn").answers(0, "wheel", 0, 3);
        one("planet", 60, 1, 58, ";gone a 59").after("turn").answers(0, "wheel", 0, 3);
        sentence("II", "and again while a gone one is");
        one("planet", 5, 1, 0, ";gone a 1;gone a 2").after("turn").answers(3, "wheel", 0, 3);
        one("planet", 5, 1, 0, ";gone a 2;gone a 1").after("turn").answers(3, "wheel", 0, 3);
        one("planet", 5, 1, 0, ";gone a 1;gone a 2").after("turn").answers(1, "now", 3);
        one("planet", 5, 1, 0, ";gone a 1;gone a 3").after("turn").answers(2, "wheel", 0, 3);
        one("planet", 5, 1, 3, ";gone a 4;gone a 0").after("turn").answers(1, "wheel", 0, 3);
        one("planet", 4, 3, 0, ";gone a 3;gone a 0").after("turn").answers(1, "wheel", 0, 3);
        one("moon", 5, 1, 4, ";gone a 3;gone a 2").after("turn").answers(1, "wheel", 0, 3);
        one("moon", 5, 1, 1, ";gone a 0;gone a 4").after("turn").answers(3, "wheel", 0, 3);
        sentence("II", "one that didn't go doesn't JERK");
        told(wheelText(0, "thimble", 5, 1, 2) + ";gone a 2").answers(0, "turn");
        told(wheelText(0, "thimble", 5, 1, 2) + ";gone a 2").after("turn").answers(2, "wheel", 0, 3);
        told(wheelText(0, "thimble", 5, 1, 1) + ";gone a 2").answers(0, "turn");
        one("bead", 5, 1, 0, ";gone a 1").after("turn").answers(0, "turn");
        one("bead", 5, 1, 0, ";gone a 1").after("turn").after("turn").answers(2, "wheel", 0, 3);
        one("planet", 5, 1, 2, ";gone a 2").answers(2, "wheel", 0, 3);
        one("planet", 5, 1, 2, ";gone a 2").answers(0, "turn");
    }

    private static void oilAndDays() {
        sentence("II", "Each TURN uses one oil, if there is any");
        told(wheelText(2, "planet", 4, 1, 0)).after("turn").answers(1, "now", 1);
        told(wheelText(2, "planet", 4, 1, 0)).after("turn").after("turn").answers(0, "now", 1);
        told(wheelText(2, "planet", 4, 1, 0)).afterTimes(3, "turn").answers(0, "now", 1);
        told(wheelText(0, "thimble", 4, 1, 0)).after("turn").answers(0, "now", 1);
        told(wheelText(99, "thimble", 4, 1, 0)).after("turn").answers(98, "now", 1);
        sentence("II", "By NOW's number days are told from 0 on, at first");
        one("planet", 4, 1, 0, "").answers(0, "now", 0);
        one("planet", 4, 1, 0, "").after("turn").answers(1, "now", 0);
    }

    private static void turnsBack() {
        sentence("II", "TURN BACK: the day's number becomes one less; each goes the other way by so many");
        one("planet", 4, 3, 0, "").afterTimes(2, "turn").after("turnBack").answers(1, "now", 0);
        one("planet", 4, 3, 0, "").after("turn").after("turnBack").answers(0, "wheel", 0, 3);
        one("planet", 4, 3, 3, "").after("turn").after("turnBack").answers(3, "wheel", 0, 3);
        one("planet", 60, 9, 59, "").after("turn").after("turnBack").answers(59, "wheel", 0, 3);
        one("moon", 4, 3, 0, "").after("turn").after("turnBack").answers(0, "wheel", 0, 3);
        one("moon", 60, 9, 0, "").after("turn").after("turnBack").answers(0, "wheel", 0, 3);
        one("moon", 4, 1, 2, "").after("turn").after("set", 0, 3).after("turnBack").answers(0, "wheel", 0, 3);
        sentence("II", "(a thimble if there is oil, a bead if the number is even then)");
        told(wheelText(1, "thimble", 4, 1, 0)).after("turn").after("turnBack").answers(1, "wheel", 0, 3);
        told(wheelText(2, "thimble", 4, 1, 0)).after("turn").after("turnBack").answers(0, "wheel", 0, 3);
        told(wheelText(1, "thimble", 4, 1, 3)).after("turn").after("oil", 1).after("turnBack").answers(3, "wheel", 0, 3);
        one("bead", 4, 1, 0, "").after("turn").after("turnBack").answers(0, "wheel", 0, 3);
        one("bead", 4, 1, 3, "").after("turn").after("turnBack").answers(3, "wheel", 0, 3);
        one("bead", 4, 1, 0, "").afterTimes(2, "turn").after("turnBack").answers(1, "wheel", 0, 3);
        one("bead", 4, 1, 0, "").afterTimes(3, "turn").after("turnBack").answers(1, "wheel", 0, 3);
        sentence("II", "oil stays");
        told(wheelText(2, "thimble", 4, 1, 0)).after("turn").after("turnBack").answers(1, "now", 1);
        told(wheelText(0, "thimble", 4, 1, 0)).after("turn").after("turnBack").answers(0, "now", 1);
        told(wheelText(2, "thimble", 4, 1, 0)).after("turn").after("oil", 99).after("turnBack").answers(99, "now", 1);
        sentence("II", "TURN BACK .. not on day 0");
        one("planet", 4, 1, 0, "").refuses(5, "turnBack");
        one("planet", 4, 1, 0, "").after("turn").answers(0, "turnBack");
    }

    private static void jerksBack() {
        sentence("II", "and JERKS that way");
        Case planet = one("planet", 5, 1, 2, ";gone a 2").after("turn");
        planet.answers(3, "wheel", 0, 3);
        planet.answers(1, "turnBack");
        planet.after("turnBack").answers(1, "wheel", 0, 3);
        planet.after("turnBack").answers(1, "now", 3);
        Case moon = one("moon", 5, 1, 2, ";gone a 2").after("turn");
        moon.answers(1, "turnBack");
        moon.after("turnBack").answers(3, "wheel", 0, 3);
        one("planet", 5, 1, 0, ";gone a 0").after("turn").after("turnBack").answers(4, "wheel", 0, 3);
        one("planet", 5, 1, 1, ";gone a 1").after("turn").after("turnBack").answers(0, "wheel", 0, 3);
        one("moon", 5, 1, 3, ";gone a 3").after("turn").after("turnBack").answers(4, "wheel", 0, 3);
        one("moon", 5, 1, 4, ";gone a 4").after("turn").after("turnBack").answers(0, "wheel", 0, 3);
        one("planet", 5, 1, 0, ";gone a 0;gone a 4").after("turn").after("turnBack").answers(3, "wheel", 0, 3);
        one("planet", 5, 1, 0, ";gone a 0;gone a 4").after("turn").answers(1, "turnBack");
        one("moon", 5, 1, 0, ";gone a 0;gone a 1").after("turn").after("turnBack").answers(2, "wheel", 0, 3);
        Case thimble = told(wheelText(1, "thimble", 5, 1, 2) + ";gone a 2").after("turn");
        thimble.answers(0, "turnBack");
        thimble.after("turnBack").answers(3, "wheel", 0, 3);
        thimble.after("oil", 1).answers(1, "turnBack");
        thimble.after("oil", 1).after("turnBack").answers(1, "wheel", 0, 3);
        Case bead = one("bead", 5, 1, 2, ";gone a 2").after("turn");
        bead.answers(1, "turnBack");
        bead.after("turn").answers(0, "turnBack");
    }

    private static void feasts() {
        sentence("II", "A FEAST is on a day on which all its wheels have the teeth told on top");
        String two = "brass oil 0 slips 0;wheel a planet teeth 4 by 1 at 0;wheel b thimble teeth 4 by 1 at 2;";
        told(two + "feast f a at 0,b at 2").answers(1, "now", 2);
        told(two + "feast f b at 2,a at 0").answers(1, "now", 2);
        told(two + "feast f a at 0,b at 3").answers(0, "now", 2);
        told(two + "feast f a at 3,b at 2").answers(0, "now", 2);
        told(two + "feast f a at 3,b at 2").afterTimes(3, "turn").answers(1, "now", 2);
        told(two + "feast f a at 0;feast g b at 2;feast h a at 1;feast i b at 2,a at 0").answers(11, "now", 2);
        told(two + "gone a 0;feast f a at 0").answers(1, "now", 2);
        told(two + "gone a 0;feast f a at 0").afterTimes(4, "turn").answers(0, "now", 2);
    }

    private static final String ALL = "brass oil 4 slips 10;wheel a planet teeth 9 by 2 at 8;wheel b moon teeth 60 by 9 at 0;"
            + "wheel c thimble teeth 4 by 3 at 3;wheel d bead teeth 5 by 1 at 2;wheel e planet teeth 6 by 5 at 1;"
            + "gone a 0;gone b 59;gone b 0;feast f a at 8,e at 0;feast g b at 0;feast h a at 1,b at 59;feast i d at 4,a at 0;"
            + "work u takes 9 worth 8 by i;work v takes 1 worth 0 by f";

    private static void promise6() {
        sentence("6", "Of a wheel 0 KIND (0 planet, 1 moon, 2 thimble, 3 bead), 1 teeth, 2 by, 3 the tooth on top NOW,"
                + " 4 how many are gone, 5 feasts it is of, as bits");
        int[][] due = {{0, 9, 2, 8, 1, 13}, {1, 60, 9, 0, 2, 6}, {2, 4, 3, 3, 0, 0}, {3, 5, 1, 2, 0, 8}, {0, 6, 5, 1, 0, 1}};
        for (int w = 0; w < 5; w++) {
            for (int what = 0; what < 6; what++) {
                told(ALL).answers(due[w][what], "wheel", w, what);
            }
        }
        told(ALL).after("turn").answers(1, "wheel", 0, 3);
        told(ALL).after("set", 2, 0).answers(0, "wheel", 2, 3);
        String four = "brass oil 0 slips 0;wheel a moon teeth 4 by 1 at 0;feast f a at 0;feast g a at 1;feast h a at 2;feast i a at 3";
        told(four).answers(15, "wheel", 0, 5);
        sentence("6", "NONE: 1");
        for (int no : new int[] {-1, 5, LEAST, MOST}) {
            told(ALL).refuses(1, "wheel", no, 0);
        }
        for (int no : new int[] {-1, 6, LEAST, MOST}) {
            told(ALL).refuses(1, "wheel", 0, no);
            told(ALL).refuses(1, "wheel", 5, no);
        }
        told(four).refuses(1, "wheel", 1, 0);
        untold().refuses(1, "wheel", 0, 0);
    }

    private static void promise7() {
        sentence("7", "1 if a tooth of a wheel is told to be gone, else 0");
        told(ALL).answers(1, "isGone", 0, 0);
        told(ALL).answers(0, "isGone", 0, 1);
        told(ALL).answers(0, "isGone", 0, 8);
        told(ALL).answers(1, "isGone", 1, 59);
        told(ALL).answers(1, "isGone", 1, 0);
        told(ALL).answers(0, "isGone", 1, 58);
        told(ALL).answers(0, "isGone", 2, 0);
        told(ALL + ";suspect d;jerked day 1").answers(0, "isGone", 3, 3);
        sentence("7", "NONE: 1");
        for (int no : new int[] {-1, 5, LEAST, MOST}) {
            told(ALL).refuses(1, "isGone", no, 0);
            told(ALL).refuses(1, "isGone", no, 60);
        }
        untold().refuses(1, "isGone", 0, 0);
        sentence("7", "2");
        for (int no : new int[] {-1, 9, LEAST, MOST, 64}) {
            told(ALL).refuses(2, "isGone", 0, no);
        }
        told(ALL).refuses(2, "isGone", 1, 60);
        told(ALL).refuses(2, "isGone", 2, 4);
    }

    private static void promise8() {
        sentence("8", "0 the day NOW, 1 oil, 2 feasts that are on NOW, as bits, 3 JERKS by ACTS so far");
        int[] due = {0, 4, 2, 0};
        for (int what = 0; what < 4; what++) {
            told(ALL).answers(due[what], "now", what);
        }
        String four = "brass oil 0 slips 0;wheel a planet teeth 4 by 3 at 0;gone a 3;feast f a at 0;feast g a at 0;feast h a at 0;feast i a at 0";
        told(four).answers(15, "now", 2);
        sentence("8", "(of all wheels; TURNS BACK too)");
        told(four).afterTimes(7, "turn").answers(7, "now", 3);
        String two = "brass oil 0 slips 0;wheel a planet teeth 5 by 1 at 0;gone a 1;wheel b moon teeth 5 by 1 at 0;gone b 4";
        told(two).after("turn").answers(2, "now", 3);
        told(two).after("turn").after("turn").answers(2, "now", 3);
        told(two).after("turn").after("turnBack").answers(4, "now", 3);
        told(two).after("turn").after("jerks", 0, 5000).after("years", 0, 0, 400).answers(2, "now", 3);
        told(two).after("value", 0, 6).after("set", 0, 3).answers(0, "now", 3);
        sentence("8", "NONE: 1 (no ORRERY, too)");
        for (int no : new int[] {-1, 4, LEAST, MOST}) {
            told(ALL).refuses(1, "now", no);
            untold().refuses(1, "now", no);
        }
        for (int what = 0; what < 4; what++) {
            untold().refuses(1, "now", what);
        }
    }

    private static void promise9() {
        sentence("9", "Of a work 0 days, 1 worth, 2 its feast");
        int[][] due = {{9, 8, 3}, {1, 0, 0}};
        for (int k = 0; k < 2; k++) {
            for (int what = 0; what < 3; what++) {
                told(ALL).answers(due[k][what], "work", k, what);
            }
        }
        sentence("9", "NONE: 1");
        for (int no : new int[] {-1, 2, 4, LEAST, MOST}) {
            told(ALL).refuses(1, "work", no, 0);
        }
        for (int no : new int[] {-1, 3, LEAST, MOST}) {
            told(ALL).refuses(1, "work", 0, no);
        }
        told("brass oil 0 slips 0;wheel a planet teeth 4 by 3 at 0").refuses(1, "work", 0, 0);
        untold().refuses(1, "work", 0, 0);
    }

    private static void promise40() {
        sentence("40", "TURN: how many JERK");
        String five = "brass oil 1 slips 0;wheel a planet teeth 4 by 1 at 0;gone a 1;wheel b moon teeth 4 by 1 at 0;gone b 3;"
                + "wheel c thimble teeth 4 by 1 at 3;gone c 0;wheel d bead teeth 4 by 3 at 1;gone d 0;gone d 1;"
                + "wheel e planet teeth 4 by 2 at 0;gone e 1";
        told(five).answers(4, "turn");
        told(five).after("turn").answers(0, "turn");
        told(five).after("turn").after("turn").answers(1, "turn");
        told(wheelText(0, "planet", 4, 1, 0)).answers(0, "turn");
        sentence("40", "NONE: 1 (no ORRERY)");
        untold().refuses(1, "turn");
        untold().afterText("#").refuses(1, "turn");
    }

    /** No object may be used for so many calls, so the last day is beyond what is promised; the class holds to it all the same. */
    private static void lastDay() {
        sentence("40", "3 (day 999,999)");
        BrassYear x = new BrassYear();
        Tapes.tell(x, "brass oil 0 slips 0;wheel a bead teeth 7 by 1 at 0");
        for (int day = 0; day < 999998; day++) {
            x.turn();
        }
        due("turn() on day 999,998", x.turn(), 0);
        due("trouble()", x.trouble(), 0);
        due("now(0)", x.now(0), 999999);
        due("turn() on day 999,999", x.turn(), BrassYear.NONE);
        due("trouble()", x.trouble(), 3);
        due("now(0) still", x.now(0), 999999);
        due("size(8)", x.size(8), 16);
        due("500,000 goings of 7 teeth", x.wheel(0, 3), 500000 % 7);
        due("turnBack()", x.turnBack(), 0);
        due("now(0) behind it", x.now(0), 999998);
        due("turn() again", x.turn(), 0);
    }

    private static void promise41() {
        sentence("41", "TURN BACK: how many JERK");
        String two = "brass oil 1 slips 0;wheel a planet teeth 5 by 1 at 0;gone a 0;wheel b moon teeth 5 by 1 at 0;gone b 0;gone b 1;"
                + "wheel c thimble teeth 5 by 1 at 0;gone c 0";
        told(two).after("turn").answers(2, "turnBack");
        told(two).after("turn").after("oil", 1).answers(3, "turnBack");
        told(two).after("turn").after("turn").answers(0, "turnBack");
        sentence("41", "NONE: 1 (no ORRERY)");
        untold().refuses(1, "turnBack");
        sentence("41", "5 (day 0)");
        told(two).refuses(5, "turnBack");
        told(two).after("turn").after("turnBack").refuses(5, "turnBack");
        told(two).after("turn").after("undo").refuses(5, "turnBack");
        told(two).after("turn").answers(2, "turnBack");
    }
}
