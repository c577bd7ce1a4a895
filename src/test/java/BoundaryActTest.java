/** Each sentence of the promises 42 to 49, and of the Terms III and IV for them, that names a boundary case; due answers by hand. */
public final class BoundaryActTest extends Sentences {
    private static final int LEAST = Integer.MIN_VALUE;
    private static final int MOST = Integer.MAX_VALUE;

    private static final String TEXT = "brass oil 3 slips 7;wheel a planet teeth 6 by 1 at 0;wheel b moon teeth 5 by 1 at 0;gone b 4;"
            + "feast f a at 0;feast g a at 1;feast h b at 0,a at 0;feast i b at 3";
    private static final String BARE = "brass oil 0 slips 0;wheel a planet teeth 4 by 1 at 0";

    public static void main(String[] args) {
        promise42();
        promise43();
        promise44();
        sixteen();
        undoOfEach();
        promise45();
        promise46();
        promise47();
        promise48();
        trouble();
        troubleStays();
        end();
    }

    private static void promise42() {
        sentence("III", "OIL (so many more, 99 at most)");
        told(TEXT).answers(4, "oil", 1);
        told(TEXT).answers(98, "oil", 95);
        told(TEXT).answers(99, "oil", 96);
        told(TEXT).answers(99, "oil", 97);
        told(TEXT).answers(99, "oil", 99);
        told(TEXT).after("oil", 97).answers(99, "now", 1);
        told(BARE).answers(1, "oil", 1);
        told(BARE).answers(99, "oil", 99);
        sentence("42", "OIL (1 .. 99): how much there is then");
        told(TEXT).after("oil", 5).answers(8, "now", 1);
        told(TEXT).after("oil", 5).answers(1, "size", 8);
        sentence("42", "NONE: 1 (no ORRERY)");
        untold().refuses(1, "oil", 1);
        untold().refuses(1, "oil", 0);
        sentence("42", "2");
        for (int no : new int[] {0, -1, 100, LEAST, MOST}) {
            told(TEXT).refuses(2, "oil", no);
            told(TEXT).after("oil", 99).refuses(2, "oil", no);
        }
        sentence("42", "5 (99 are there)");
        told(TEXT).after("oil", 99).refuses(5, "oil", 1);
        told(TEXT).after("oil", 99).refuses(5, "oil", 99);
        told("brass oil 99 slips 0;wheel a planet teeth 4 by 1 at 0").refuses(5, "oil", 1);
        told("brass oil 98 slips 0;wheel a planet teeth 4 by 1 at 0").answers(99, "oil", 1);
        told("brass oil 99 slips 0;wheel a planet teeth 4 by 1 at 0").after("turn").answers(99, "oil", 99);
    }

    private static void promise43() {
        sentence("43", "SET: true");
        told(TEXT).answers(1, "set", 0, 5);
        told(TEXT).after("set", 0, 5).answers(5, "wheel", 0, 3);
        told(TEXT).after("set", 0, 5).answers(0, "wheel", 1, 3);
        told(TEXT).after("set", 0, 5).after("set", 0, 0).answers(0, "wheel", 0, 3);
        told(TEXT).after("set", 0, 5).answers(0, "now", 0);
        told(TEXT).after("set", 0, 5).answers(3, "now", 1);
        told(TEXT).after("set", 0, 5).answers(1, "size", 8);
        told(BARE + ";suspect a;jerked day 1").answers(1, "set", 0, 1);
        sentence("43", "false: 1");
        for (int no : new int[] {-1, 2, LEAST, MOST}) {
            told(TEXT).refuses(1, "set", no, 1);
            told(TEXT).refuses(1, "set", no, -1);
        }
        untold().refuses(1, "set", 0, 0);
        sentence("43", "2 (no such tooth, it is gone)");
        for (int no : new int[] {-1, 6, 64, LEAST, MOST}) {
            told(TEXT).refuses(2, "set", 0, no);
        }
        told(TEXT).refuses(2, "set", 1, 5);
        told(TEXT).refuses(2, "set", 1, 4);
        told(BARE + ";gone a 0").refuses(2, "set", 0, 0);
        sentence("43", "5 (it is on top)");
        told(TEXT).refuses(5, "set", 0, 0);
        told(TEXT).refuses(5, "set", 1, 0);
        told(TEXT).after("turn").refuses(5, "set", 1, 3);
        told(TEXT).after("turn").answers(1, "set", 0, 0);
        told(TEXT).after("set", 0, 5).refuses(5, "set", 0, 5);
    }

    private static void promise44() {
        sentence("44", "UNDO: true; false: 6");
        told(TEXT).refuses(6, "undo");
        untold().refuses(6, "undo");
        told(TEXT).after("turn").answers(1, "undo");
        told(TEXT).after("turn").after("undo").refuses(6, "undo");
        told(TEXT).after("image").refuses(6, "undo");
        sentence("III", "ACTS: TURN, TURN BACK, OIL (so many more, 99 at most), SET a wheel");
        told(TEXT).after("turn").after("turnBack").after("oil", 1).after("set", 0, 3).answers(4, "size", 8);
        told(TEXT).after("turnBack").after("oil", 0).after("set", 0, 0).after("set", 1, 4).answers(0, "size", 8);
        told(TEXT).after("next", 0).after("value", 0, 6).after("years", 0, 0, 400).after("image").answers(0, "size", 8);
    }

    private static void sixteen() {
        sentence("III", "UNDO: the latest (16 are kept)");
        told(TEXT).afterTimes(15, "turn").answers(15, "size", 8);
        told(TEXT).afterTimes(16, "turn").answers(16, "size", 8);
        told(TEXT).afterTimes(17, "turn").answers(16, "size", 8);
        Case all = told(TEXT).afterTimes(16, "turn").afterTimes(16, "undo");
        all.answers(0, "now", 0);
        all.refuses(6, "undo");
        told(TEXT).afterTimes(17, "turn").afterTimes(15, "undo").answers(1, "undo");
        Case but = told(TEXT).afterTimes(17, "turn").afterTimes(16, "undo");
        but.answers(1, "now", 0);
        but.answers(1, "wheel", 0, 3);
        but.answers(2, "now", 1);
        but.refuses(6, "undo");
        told(TEXT).afterTimes(40, "turn").afterTimes(16, "undo").answers(24, "now", 0);
        told(TEXT).afterTimes(40, "turn").afterTimes(17, "undo").answers(24, "now", 0);
        told(TEXT).afterTimes(20, "turn").afterTimes(5, "undo").answers(11, "size", 8);
        told(TEXT).afterTimes(20, "turn").afterTimes(5, "undo").afterTimes(4, "turn").answers(15, "size", 8);
        told(TEXT).afterTimes(20, "turn").afterTimes(5, "undo").afterTimes(6, "turn").answers(16, "size", 8);
        told(TEXT).afterTimes(20, "turn").afterTimes(5, "undo").afterTimes(6, "turn").afterTimes(16, "undo").answers(5, "now", 0);
        told(TEXT).afterTimes(5, "turn").after("undo").afterText(TEXT).after("oil", 4).after("undo").answers(3, "now", 1);
    }

    private static void undoOfEach() {
        sentence("III", "UNDO: the latest");
        Case turned = told(TEXT).after("turn").after("undo");
        int[] now = {0, 3, 5, 0};
        for (int what = 0; what < 4; what++) {
            turned.answers(now[what], "now", what);
        }
        turned.answers(0, "wheel", 0, 3);
        turned.answers(0, "wheel", 1, 3);
        Case back = told(TEXT).after("turn").after("turnBack").after("undo");
        back.answers(1, "now", 0);
        back.answers(3, "wheel", 1, 3);
        back.answers(1, "now", 3);
        told(TEXT).after("oil", 99).after("undo").answers(3, "now", 1);
        told(TEXT).after("set", 1, 2).after("undo").answers(0, "wheel", 1, 3);
        told(TEXT).after("set", 1, 2).after("oil", 5).after("undo").answers(2, "wheel", 1, 3);
        told(TEXT).after("set", 1, 2).after("set", 1, 2).after("undo").answers(0, "wheel", 1, 3);
        told(TEXT).after("turn").after("image").after("undo").answers(1, "size", 9);
    }

    private static void promise45() {
        sentence("III", "IMAGES: up to 3");
        told(TEXT).answers(0, "image");
        told(TEXT).after("image").answers(1, "image");
        told(TEXT).after("image").after("image").answers(2, "image");
        told(TEXT).afterTimes(3, "image").answers(3, "size", 9);
        sentence("45", "NONE: 1 (no ORRERY); 3");
        untold().refuses(1, "image");
        told(TEXT).afterTimes(3, "image").refuses(3, "image");
        told(TEXT).afterTimes(3, "image").after("turn").after("back", 0).refuses(3, "image");
        told(TEXT).afterTimes(3, "image").after("turn").after("image").after("back", 2).answers(0, "now", 0);
    }

    private static void promise46() {
        Case three = told(TEXT).after("image").after("turn").after("image").after("oil", 9).after("set", 1, 1).after("image").after("turn");
        sentence("46", "All is as by an IMAGE (all IMAGES stay): true");
        int[][] due = {{0, 3, 0, 0, 0}, {1, 2, 1, 1, 3}, {1, 11, 1, 1, 1}};
        for (int image = 0; image < 3; image++) {
            three.answers(1, "back", image);
            Case back = three.after("back", image);
            back.answers(due[image][0], "now", 0);
            back.answers(due[image][1], "now", 1);
            back.answers(due[image][2], "now", 3);
            back.answers(due[image][3], "wheel", 0, 3);
            back.answers(due[image][4], "wheel", 1, 3);
            back.answers(3, "size", 9);
            for (int other = 0; other < 3; other++) {
                back.after("back", other).answers(due[other][1], "now", 1);
            }
        }
        sentence("III", "gone back to one, nothing can be undone");
        three.answers(4, "size", 8);
        three.after("back", 1).answers(0, "size", 8);
        three.after("back", 1).refuses(6, "undo");
        three.after("back", 1).after("turn").answers(1, "size", 8);
        three.after("back", 1).after("turn").after("undo").answers(1, "now", 0);
        three.after("back", 1).after("turn").after("undo").refuses(6, "undo");
        three.after("back", 3).answers(4, "size", 8);
        sentence("46", "false: 1");
        for (int no : new int[] {-1, 3, 4, LEAST, MOST}) {
            three.refuses(1, "back", no);
        }
        told(TEXT).refuses(1, "back", 0);
        told(TEXT).after("image").refuses(1, "back", 1);
        untold().refuses(1, "back", 0);
    }

    private static void promise47() {
        sentence("47", "The i-th feast, by numbers, that is on NOW");
        told(TEXT).answers(0, "led", 0);
        told(TEXT).answers(2, "led", 1);
        told(TEXT).after("turn").answers(1, "led", 0);
        told(TEXT).after("turn").answers(3, "led", 1);
        String four = BARE + ";feast f a at 0;feast g a at 0;feast h a at 0;feast i a at 0";
        for (int f = 0; f < 4; f++) {
            told(four).answers(f, "led", f);
        }
        sentence("47", "NoSuchElementException if there is none such");
        for (int no : new int[] {-1, 2, 3, LEAST, MOST}) {
            told(TEXT).throwsAt("led", no);
        }
        told(four).throwsAt("led", 4);
        told(four).throwsAt("led", -1);
        told(four).after("turn").throwsAt("led", 0);
        told(BARE).throwsAt("led", 0);
        untold().throwsAt("led", 0);
        untold().throwsAt("led", -1);
    }

    private static void promise48() {
        String full = TEXT + ";work u takes 1 worth 1 by f;work v takes 1 worth 1 by g;work w takes 1 worth 1 by g;"
                + "sky f every 1 from 0;sky i every 1 from 0;suspect a;jerked day 1;smooth day 2;smooth day 3;smooth day 4";
        sentence("48", "0 slips, 1 wheels, 2 gone teeth, 3 feasts, 4 works, 5 feasts of the sky, 6 1 if there is a suspect, 7 seen,"
                + " 8 ACTS that can be undone, 9 IMAGES, 10 bytes of THE TAPE");
        int[] due = {7, 2, 1, 4, 3, 2, 1, 4, 3, 2, 40};
        Case busy = told(full).after("turn").after("oil", 3).after("image").after("image").after("set", 0, 3)
                .after("feed", 0, 0, 0, 0, 0).after("feed", 0, 0, 0, 0, 0);
        for (int what = 0; what <= 10; what++) {
            busy.answers(due[what], "size", what);
        }
        sentence("48", "NONE for others");
        for (int no : new int[] {-1, 11, LEAST, MOST}) {
            busy.answers(BrassYear.NONE, "size", no);
            untold().answers(BrassYear.NONE, "size", no);
        }
        sentence("48", "0 for what there isn't");
        int[] bare = {0, 1, 0, 0, 0, 0, 0, 0, 0, 0, 0};
        for (int what = 0; what <= 10; what++) {
            untold().answers(0, "size", what);
            told(BARE).answers(bare[what], "size", what);
        }
    }

    private static void trouble() {
        sentence("IV", "0 it wasn't; 1 there is none such; 2 a number; 3 no room; 4 a FAULT; 5 not so; 6 there is none");
        told(TEXT).answers(0, "trouble");
        told(TEXT).after("next", 4).after("next", 0).answers(0, "trouble");
        told(TEXT).after("next", 4).answers(1, "trouble");
        told(TEXT).after("oil", 0).answers(2, "trouble");
        told(TEXT).afterTimes(4, "image").answers(3, "trouble");
        told(TEXT).afterText("#").answers(4, "trouble");
        told(TEXT).after("turnBack").answers(5, "trouble");
        told(TEXT).after("undo").answers(6, "trouble");
        sentence("IV", "TROUBLE of the latest call that may be refused");
        told(TEXT).after("undo").after("oil", 0).answers(2, "trouble");
        told(TEXT).after("oil", 0).after("undo").answers(6, "trouble");
        told(TEXT).after("undo").after("turn").answers(0, "trouble");
        told(TEXT).after("undo").after("meet", 0, 1).answers(0, "trouble");
        told(BARE + ";gone a 1;feast f a at 1").after("undo").after("next", 0).answers(0, "trouble");
        sentence("49", "TROUBLE");
        untold().answers(0, "trouble");
        told(TEXT).after("undo").after("trouble").answers(6, "trouble");
    }

    private static void troubleStays() {
        sentence("IV", "(those of which a number is told here)");
        for (Case c : new Case[] {told(TEXT).after("undo"), untold().after("undo")}) {
            c.after("feed", 0, 0, 0, 0, 0).answers(6, "trouble");
            c.afterTimes(46, "feed", 0, 0, 0, 0, 0).answers(6, "trouble");
            c.after("fault").answers(6, "trouble");
            c.after("where").answers(6, "trouble");
            c.after("led", 0).answers(6, "trouble");
            c.after("led", -1).answers(6, "trouble");
            c.after("size", 1).answers(6, "trouble");
            c.after("size", 11).answers(6, "trouble");
        }
    }
}
