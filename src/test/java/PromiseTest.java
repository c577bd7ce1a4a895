import java.util.NoSuchElementException;

/** For each promise of the document ordinary inputs, the edges it names, and wrong inputs; due answers by hand. */
public final class PromiseTest {
    /** Five unlike wheels would be more than these need; the planet p and the moon m have a tooth gone each. */
    private static final String FOUR = "brass oil 3 slips 25;"
            + "wheel p planet teeth 6 by 2 at 0;"
            + "wheel m moon teeth 5 by 1 at 4;"
            + "wheel t thimble teeth 8 by 3 at 1;"
            + "wheel b bead teeth 4 by 1 at 0;"
            + "gone p 4;gone m 2;"
            + "feast pp p at 2;"
            + "feast pm p at 5,m at 0;"
            + "feast tt t at 2;"
            + "feast pb p at 0,b at 0;"
            + "work one takes 1 worth 5 by pp;"
            + "work two takes 2 worth 7 by pm;"
            + "sky pp every 5 from 2;"
            + "suspect b;smooth day 1;jerked day 3";
    private static final String BARE = "brass oil 0 slips 0;wheel a planet teeth 4 by 1 at 0";

    private static int wrong = 0;
    private static int looked = 0;

    public static void main(String[] args) {
        promise1();
        promise2();
        promise3();
        faultsOfForm();
        faultsOfNames();
        faultsOfBounds();
        faultsOfRoomAndOrder();
        promise4And5();
        promises6To9();
        promise10();
        promises11To13();
        promises14To18();
        promises19To22();
        promises23To25();
        promises26And27();
        promises28To32();
        promises33And34();
        promises35And36();
        promises37To39();
        promises40And41();
        promises42And43();
        promises44To46();
        promises47And48();
        promise49();
        System.out.println(looked + " answers looked at, " + wrong + " wrong");
        if (wrong != 0) {
            System.exit(1);
        }
    }

    private static void due(String what, long got, long want) {
        looked++;
        if (got != want) {
            wrong++;
            System.out.println(what + " answered " + got + ", due is " + want);
        }
    }

    private static void due(String what, boolean got, boolean want) {
        due(what, got ? 1 : 0, want ? 1 : 0);
    }

    /** The answer must be NONE, by that trouble. */
    private static void refused(String what, BrassYear x, long got, int trouble) {
        due(what, got, BrassYear.NONE);
        due("trouble of " + what, x.trouble(), trouble);
    }

    private static void refused(String what, BrassYear x, boolean got, int trouble) {
        due(what, got, false);
        due("trouble of " + what, x.trouble(), trouble);
    }

    private static BrassYear with(String text) {
        BrassYear x = new BrassYear();
        if (Tapes.tell(x, text) < 1) {
            wrong++;
            System.out.println("not taken, fault " + x.fault() + " at " + x.where() + ": " + text);
        }
        return x;
    }

    /** The text must have that fault at the place that the mark ! stands ahead of (it isn't of the text). */
    private static void faulty(int fault, String marked) {
        int place = marked.indexOf('!');
        String text = marked.substring(0, place) + marked.substring(place + 1);
        BrassYear x = with(BARE);
        due("orrery of " + marked, Tapes.tell(x, text), BrassYear.NONE);
        due("trouble of " + marked, x.trouble(), 4);
        due("fault of " + marked, x.fault(), fault);
        due("where of " + marked, x.where(), place);
        due("wheels behind " + marked, x.size(1), 1);
    }

    private static void sound(String text, int wheels) {
        BrassYear x = new BrassYear();
        due("orrery of " + text, Tapes.tell(x, text), wheels);
        due("trouble of " + text, x.trouble(), 0);
        due("fault of " + text, x.fault(), 0);
    }

    private static void promise1() {
        BrassYear x = new BrassYear();
        for (int what = 0; what <= 10; what++) {
            due("1 size " + what, x.size(what), 0);
        }
        due("1 trouble", x.trouble(), 0);
        due("1 fault", x.fault(), 0);
        due("1 where", x.where(), -1);
        refused("1 wheel", x, x.wheel(0, 0), 1);
        refused("1 now", x, x.now(0), 1);
        refused("1 work", x, x.work(0, 0), 1);
        refused("1 soonest", x, x.soonest(), 1);
        refused("1 lineWorth", x, x.lineWorth(), 1);
        refused("1 inTime", x, x.inTime(), 1);
        refused("1 fits", x, x.fits(), 1);
        refused("1 fitAt", x, x.fitAt(0), 1);
        refused("1 look", x, x.look(), 1);
        refused("1 lookLeaves", x, x.lookLeaves(), 1);
        refused("1 judge", x, x.judge(-1), 1);
        refused("1 slips", x, x.slips(-1, 0), 1);
        refused("1 turn", x, x.turn(), 1);
        refused("1 turnBack", x, x.turnBack(), 1);
        refused("1 oil", x, x.oil(0), 1);
        refused("1 image", x, x.image(), 1);
        refused("1 undo", x, x.undo(), 6);
        refused("1 back", x, x.back(0), 1);
        refused("1 set", x, x.set(0, 0), 1);
        refused("1 likely", x, x.likely(0, 0, 7, true), 1);
        refused("1 jerkMean", x, x.jerkMean(0, 7, true), 1);
        due("1 NONE", BrassYear.NONE, -1);
    }

    private static void promise2() {
        BrassYear x = new BrassYear();
        for (int i = 1; i <= 45; i++) {
            due("2 feed " + i, x.feed(0x20202020, 0x20202020, 0x20202020, 0x20202020, 0x20202020), 20 * i);
        }
        due("2 feed beyond", x.feed(0, 0, 0, 0, 0), -1);
        due("2 tape", x.size(10), 900);
        refused("2 of blanks", x, x.orrery(900), 4);
        due("2 blanks end", x.where(), 900);
        due("2 feed anew", x.feed(0x62726173, 0x7320ff20, 0, 0, 0), 20);
        x.orrery(20);
        due("2 byte 255 is no token", x.fault(), 1);
        due("2 the highest byte first", x.where(), 6);
        x.turn();
        due("2 trouble", x.trouble(), 1);
        x.feed(0, 0, 0, 0, 0);
        due("2 feed leaves trouble", x.trouble(), 1);
    }

    private static void promise3() {
        BrassYear x = new BrassYear();
        Tapes.feed(x, FOUR);
        int fed = x.size(10);
        refused("3 less than none", x, x.orrery(-1), 2);
        refused("3 more than fed", x, x.orrery(fed + 1), 2);
        due("3 the tape stays", x.size(10), fed);
        due("3 wheels", x.orrery(FOUR.length()), 4);
        due("3 trouble", x.trouble(), 0);
        due("3 the tape is empty", x.size(10), 0);
        x.turn();
        x.image();
        x.turn();
        refused("3 faulty", x, Tapes.tell(x, "brass oil 1 slips 1"), 4);
        due("3 the tape is empty then too", x.size(10), 0);
        due("3 the orrery stays", x.size(1), 4);
        due("3 its day stays", x.now(0), 2);
        due("3 its acts stay", x.size(8), 2);
        due("3 its images stay", x.size(9), 1);
        Tapes.feed(x, BARE + ";#");
        due("3 the first n bytes alone", x.orrery(BARE.length()), 1);
        due("3 day 0", x.now(0), 0);
        due("3 oil as told", x.now(1), 0);
        due("3 no jerks", x.now(3), 0);
        due("3 nothing to undo", x.size(8), 0);
        due("3 no images", x.size(9), 0);
        due("3 no suspect", x.size(6), 0);
        due("3 no sky", x.size(5), 0);
        due("3 no tooth gone", x.isGone(0, 0), 0);
        sound("  brass   oil 000 slips 100 ; wheel brassy planet teeth4by3at 3 ; gone brassy 003  ", 1);
        sound("brass oil 99 slips 0;wheel by bead teeth 60 by 9 at 59;wheel at moon teeth 10 by 9 at 0;"
                + "wheel day thimble teeth 4 by 1 at 3;wheel planet planet teeth 9 by 8 at 8;wheel oil bead teeth 5 by 4 at 4;"
                + "gone by 59;gone by 0;gone at 1;gone at 0;feast teeth by at 59,at at 0,day at 3,planet at 8,oil at 4;"
                + "feast takes by at 0;feast every at at 9;feast from day at 0;work x takes 99 worth 99 by teeth;"
                + "work y takes 1 worth 0 by from;work z takes 1 worth 1 by from;work worth takes 1 worth 1 by every;"
                + "sky teeth every 400 from 400;sky from every 1 from 0;suspect oil;jerked day 99;smooth day 1;"
                + "jerked day 2;smooth day 3;smooth day 4", 5);
    }

    private static void faultsOfForm() {
        String brass = "brass oil 5 slips 5;";
        String wheel = brass + "wheel a planet teeth 5 by 1 at 0";
        faulty(1, "!");
        faulty(1, "   !");
        faulty(1, "!;");
        faulty(1, "!7");
        faulty(1, "!brasses");
        faulty(1, "!abcdefghi");
        faulty(1, "!Brass");
        faulty(1, "brass !5");
        faulty(1, "brass oil !slips");
        faulty(1, "brass oil 5!");
        faulty(1, "brass oil 5  !");
        faulty(1, "brass oil !0005");
        faulty(1, "brass oil 5 slips 5!,");
        faulty(1, "brass oil 5 slips 5 !wheel");
        faulty(1, brass + "!");
        faulty(1, brass + "  !;");
        faulty(1, brass + "!moon");
        faulty(1, brass + "wheel !");
        faulty(1, brass + "wheel !7");
        faulty(1, brass + "wheel !smooth");
        faulty(1, brass + "wheel !jerked planet");
        faulty(1, brass + "wheel !abcdefghi planet");
        faulty(1, brass + "wheel a !sun");
        faulty(1, brass + "wheel a !wheel");
        faulty(1, brass + "wheel a planet teeth 5 by 1 at 0!-");
        faulty(1, brass + "wheel a planet teeth 5 by 1 at 0 !\t");
        faulty(1, brass + "wheel a planet teeth 5 by 1 at!");
        faulty(1, wheel + " !1");
        faulty(1, wheel + "!,a at 1");
        faulty(1, wheel + ";!");
        faulty(1, wheel + ";gone !sky 1");
        faulty(1, wheel + ";gone !1");
        faulty(1, wheel + ";gone a !at 1");
        faulty(1, wheel + ";feast f a at 1 !a at 2");
        faulty(1, wheel + ";feast f a at 1,!");
        faulty(1, wheel + ";feast f a at 1,!;");
        faulty(1, wheel + ";suspect a !1");
        faulty(1, wheel + ";suspect a;jerked !5");
        faulty(1, wheel + ";feast f a at 1;work w takes 1 worth 1 by !brass");
        faulty(1, wheel + ";feast f a at 1;sky f !from 3");
    }

    private static void faultsOfNames() {
        String wheel = "brass oil 5 slips 5;wheel a planet teeth 5 by 1 at 0";
        String feast = wheel + ";feast f a at 1";
        faulty(2, wheel + ";gone !b 1");
        faulty(2, feast + ";gone !f 1");
        faulty(2, wheel + ";feast f !b at 1");
        faulty(2, wheel + ";feast f !f at 1");
        faulty(2, wheel + ";feast f a at 1,!f at 1");
        faulty(2, wheel + ";work w takes 1 worth 1 by !f");
        faulty(2, feast + ";work w takes 1 worth 1 by !w");
        faulty(2, feast + ";work w takes 1 worth 1 by !a");
        faulty(2, feast + ";work w takes 1 worth 1 by f;sky !w every 1 from 1");
        faulty(2, wheel + ";sky !f every 1 from 1");
        faulty(2, wheel + ";suspect !b");
        faulty(2, feast + ";suspect !f");
        faulty(3, wheel + ";wheel !a moon");
        faulty(3, wheel + ";feast !a a at 1");
        faulty(3, feast + ";wheel !f moon");
        faulty(3, feast + ";feast !f a at 1");
        faulty(3, feast + ";work !a takes 1");
        faulty(3, feast + ";work w takes 1 worth 1 by f;work !w takes 1");
        faulty(3, wheel + ";gone a 1;gone a !1");
        faulty(3, wheel + ";gone a 1;gone a !001");
        faulty(3, feast + ",!a at 2");
        faulty(3, feast + ";sky f every 1 from 1;sky !f every 1 from 1");
        faulty(3, wheel + ";!brass oil 5 slips 5");
        faulty(3, wheel + ";suspect a;!suspect a");
        faulty(3, wheel + ";suspect a;jerked day 7;jerked day !7");
        faulty(3, wheel + ";suspect a;smooth day 7;jerked day !07");
    }

    private static void faultsOfBounds() {
        String brass = "brass oil 5 slips 5;";
        String wheel = brass + "wheel a planet teeth 5 by 1 at 0";
        String feast = wheel + ";feast f a at 1";
        faulty(4, "brass oil !100 slips 5");
        faulty(4, "brass oil 5 slips !101");
        faulty(4, brass + "wheel a moon teeth !3 by 1 at 0");
        faulty(4, brass + "wheel a moon teeth !61 by 1 at 0");
        faulty(4, brass + "wheel a moon teeth 60 by !0 at 0");
        faulty(4, brass + "wheel a moon teeth 60 by !10 at 0");
        faulty(4, brass + "wheel a moon teeth 9 by !9 at 0");
        faulty(4, brass + "wheel a moon teeth 9 by 8 at !9");
        faulty(4, wheel + ";gone a !5");
        faulty(4, wheel + ";feast f a at !5");
        faulty(4, feast + ";work w takes !0 worth 1 by f");
        faulty(4, feast + ";work w takes !100 worth 1 by f");
        faulty(4, feast + ";work w takes 1 worth !100 by f");
        faulty(4, feast + ";sky f every !0 from 0");
        faulty(4, feast + ";sky f every !401 from 0");
        faulty(4, feast + ";sky f every 1 from !401");
        faulty(4, wheel + ";suspect a;smooth day !0");
        faulty(4, wheel + ";suspect a;jerked day !100");
    }

    private static void faultsOfRoomAndOrder() {
        String brass = "brass oil 5 slips 5";
        String wheel = brass + ";wheel a planet teeth 5 by 1 at 0";
        String feast = wheel + ";feast f a at 1";
        StringBuilder wheels = new StringBuilder(brass);
        StringBuilder feasts = new StringBuilder(wheel);
        StringBuilder works = new StringBuilder(feast);
        StringBuilder seen = new StringBuilder(wheel + ";suspect a");
        for (int i = 0; i < 5; i++) {
            wheels.append(";wheel w").append((char) ('a' + i)).append(" bead teeth 9 by 1 at 0");
            seen.append(i % 2 == 0 ? ";jerked day " : ";smooth day ").append(i + 1);
            if (i < 4) {
                feasts.append(";feast w").append((char) ('a' + i)).append(" a at 0");
                works.append(";work w").append((char) ('a' + i)).append(" takes 1 worth 1 by f");
            }
        }
        sound(wheels.toString(), 5);
        sound(feasts.toString(), 1);
        sound(works.toString(), 1);
        sound(seen.toString(), 1);
        faulty(5, wheels + ";!wheel wa");
        faulty(5, feasts + ";!feast wa");
        faulty(5, works + ";!work wa");
        faulty(5, seen + ";!jerked day 1");
        faulty(5, seen + ";!smooth day 77");
        faulty(5, wheel + ";gone a 1;gone a 2;gone !a 2");
        faulty(6, "!wheel a planet teeth 5 by 1 at 0;brass oil 5 slips 5");
        faulty(6, "!jerked");
        faulty(6, " !suspect");
        faulty(6, wheel + ";!jerked day 1");
        faulty(6, wheel + ";!smooth day 100");
        faulty(6, brass + "!");
        faulty(6, brass + "  !");
        faulty(7, wheel + ";suspect a;gone !a 9");
        faulty(7, wheel + ";gone a 1;suspect !a");
    }

    private static void promise4And5() {
        BrassYear x = new BrassYear();
        Tapes.tell(x, "brass oil 100");
        due("4 fault", x.fault(), 4);
        due("5 where", x.where(), 10);
        due("5 where again", x.where(), 10);
        x.size(3);
        due("5 where behind size", x.where(), 10);
        x.orrery(1);
        due("4 fault behind a number", x.fault(), 4);
        due("5 where behind a number", x.where(), -1);
        Tapes.tell(x, BARE);
        due("4 no fault", x.fault(), 0);
        due("5 where without one", x.where(), -1);
        Tapes.tell(x, "brass 1");
        due("5 where of the next", x.where(), 6);
        x.now(0);
        due("5 where behind another call", x.where(), -1);
        due("4 fault behind another call", x.fault(), 1);
    }

    private static void promises6To9() {
        BrassYear x = with(FOUR);
        int[][] wheels = {{0, 6, 2, 0, 1, 11}, {1, 5, 1, 4, 1, 2}, {2, 8, 3, 1, 0, 4}, {3, 4, 1, 0, 0, 8}};
        for (int w = 0; w < 4; w++) {
            for (int what = 0; what < 6; what++) {
                due("6 wheel " + w + " " + what, x.wheel(w, what), wheels[w][what]);
            }
        }
        x.turn();
        due("6 trouble", x.trouble(), 0);
        due("6 on top now", x.wheel(0, 3), 2);
        refused("6 no wheel", x, x.wheel(4, 0), 1);
        refused("6 wheel -1", x, x.wheel(-1, 0), 1);
        refused("6 no such", x, x.wheel(0, 6), 1);
        refused("6 no such -1", x, x.wheel(0, -1), 1);
        due("7 gone", x.isGone(0, 4), 1);
        due("7 not gone", x.isGone(0, 0), 0);
        due("7 the suspect's", x.isGone(3, 2), 0);
        refused("7 no wheel", x, x.isGone(4, 99), 1);
        refused("7 no tooth", x, x.isGone(0, 6), 2);
        refused("7 tooth -1", x, x.isGone(0, -1), 2);
        BrassYear y = with(FOUR);
        due("8 day", y.now(0), 0);
        due("8 oil", y.now(1), 3);
        due("8 feasts", y.now(2), 8);
        due("8 jerks", y.now(3), 0);
        refused("8 no such", y, y.now(4), 1);
        refused("8 no such -1", y, y.now(-1), 1);
        y.turn();
        due("8 day 1", y.now(0), 1);
        due("8 oil on day 1", y.now(1), 2);
        due("8 feasts on day 1", y.now(2), 1);
        y.turn();
        due("8 jerks of both wheels", y.now(3), 2);
        due("9 days", y.work(1, 0), 2);
        due("9 worth", y.work(1, 1), 7);
        due("9 feast", y.work(1, 2), 1);
        refused("9 no work", y, y.work(2, 0), 1);
        refused("9 work -1", y, y.work(-1, 0), 1);
        refused("9 no such", y, y.work(0, 3), 1);
        refused("9 no such -1", y, y.work(0, -1), 1);
    }

    private static void promise10() {
        BrassYear x = with(FOUR);
        int[][] days = {{0, 2, 5, 1, 3, 5, 1}, {4, 3, 1, 0, 4, 3, 1}, {1, 4, 7, 2, 2, 2, 2}, {0, 1, 1, 2, 2, 3, 3}};
        for (int w = 0; w < 4; w++) {
            for (int n = 0; n < 7; n++) {
                due("10 toothIn " + w + " " + n, x.toothIn(w, n), days[w][n]);
            }
        }
        due("10 far planet", x.toothIn(0, 1000000), days[0][4]);
        due("10 far moon", x.toothIn(1, 1000000), days[1][0]);
        due("10 far thimble", x.toothIn(2, 1000000), 2);
        due("10 far bead", x.toothIn(3, 1000000), 0);
        refused("10 too far", x, x.toothIn(0, 1000001), 2);
        refused("10 behind", x, x.toothIn(0, -1), 2);
        refused("10 no wheel", x, x.toothIn(4, -1), 1);
        x.turn();
        due("10 bead from an odd day", x.toothIn(3, 1), 1);
        due("10 bead from an odd day, two", x.toothIn(3, 2), 2);
        BrassYear two = with("brass oil 0 slips 0;wheel a planet teeth 5 by 1 at 0;wheel c moon teeth 5 by 1 at 0;"
                + "gone a 1;gone a 2;gone c 4;gone c 3");
        due("10 over two gone teeth", two.toothIn(0, 1), 3);
        due("10 back over two gone teeth", two.toothIn(1, 1), 2);
        due("11 over two gone teeth once", two.jerks(0, 1), 1);
        due("40 two wheels jerk, once each", two.turn(), 2);
    }

    private static void promises11To13() {
        BrassYear x = with(FOUR);
        due("11 none", x.jerks(0, 0), 0);
        due("11 planet", x.jerks(0, 2), 1);
        due("11 planet further", x.jerks(0, 4), 1);
        due("11 moon", x.jerks(1, 8), 2);
        due("11 thimble", x.jerks(2, 5000), 0);
        due("11 moon far", x.jerks(1, 5000), 1250);
        refused("11 too far", x, x.jerks(0, 5001), 2);
        refused("11 behind", x, x.jerks(0, -1), 2);
        refused("11 no wheel", x, x.jerks(-1, -1), 1);
        BrassYear round = with("brass oil 0 slips 0;wheel a planet teeth 9 by 1 at 3;gone a 3;gone a 6");
        due("11 a gone tooth left, one jerk", round.jerks(0, 7), 1);
        due("11 a round with two jerks", round.jerks(0, 9), 2);
        due("11 a round and a jerk", round.jerks(0, 10), 3);
        due("12 never again", x.comesRound(0), -2);
        due("12 moon", x.comesRound(1), 4);
        refused("12 oiled thimble", x, x.comesRound(2), 5);
        due("12 bead", x.comesRound(3), 8);
        refused("12 no wheel", x, x.comesRound(4), 1);
        due("13 planet", x.idle(0), 1);
        due("13 moon", x.idle(1), 1);
        due("13 thimble", x.idle(2), 4);
        due("13 bead", x.idle(3), 0);
        refused("13 no wheel", x, x.idle(-1), 1);
        for (int i = 0; i < 3; i++) {
            x.turn();
        }
        due("12 planet on its round", x.comesRound(0), 3);
        due("12 thimble without oil", x.comesRound(2), 1);
        due("12 bead on an odd day", x.comesRound(3), 8);
        due("13 thimble without oil", x.idle(2), 7);
        due("13 planet on its round", x.idle(0), 3);
    }

    private static void promises14To18() {
        BrassYear x = with(FOUR);
        due("14 pp", x.next(0), 1);
        due("14 pm", x.next(1), 11);
        due("14 tt", x.next(2), 3);
        due("14 pb, on now, never again", x.next(3), -2);
        refused("14 no feast", x, x.next(4), 1);
        refused("14 feast -1", x, x.next(-1), 1);
        due("15 none", x.often(2, 0), 0);
        due("15 not yet", x.often(2, 2), 0);
        due("15 each day from then on", x.often(2, 5000), 4998);
        due("15 once", x.often(0, 5000), 1);
        refused("15 too far", x, x.often(0, 5001), 2);
        refused("15 behind", x, x.often(0, -1), 2);
        refused("15 no feast", x, x.often(4, -1), 1);
        due("16 never", x.meet(0, 2), -2);
        refused("16 like", x, x.meet(2, 2), 1);
        refused("16 no feast", x, x.meet(0, 4), 1);
        refused("16 no feast first", x, x.meet(-1, 0), 1);
        due("17 soonest", x.soonest(), 0);
        due("18 fewer than two", x.longestGap(0), -2);
        due("18 each day", x.longestGap(2), 1);
        refused("18 no feast", x, x.longestGap(4), 1);
        BrassYear y = with("brass oil 0 slips 0;wheel a planet teeth 6 by 1 at 0;wheel c bead teeth 4 by 1 at 0;"
                + "wheel d moon teeth 59 by 1 at 0;wheel e planet teeth 60 by 7 at 0;"
                + "feast g c at 1;feast h a at 0,c at 1;feast i d at 0,e at 0;feast j a at 0");
        due("14 bead stays two days", y.next(0), 1);
        due("15 bead stays two days", y.often(0, 9), 3);
        due("18 bead's gap", y.longestGap(0), 7);
        due("14 both", y.next(1), 18);
        due("15 a day early", y.often(1, 17), 0);
        due("15 to the day", y.often(1, 18), 1);
        due("18 both", y.longestGap(1), 24);
        due("14 far", y.next(2), 3540);
        due("18 one alone is fewer than two", y.longestGap(2), -2);
        due("16 at once", y.meet(0, 3), 18);
        due("16 the other way round", y.meet(3, 0), 18);
        due("16 far", y.meet(2, 3), 3540);
        due("16 trouble", y.trouble(), 0);
        BrassYear z = with("brass oil 0 slips 0;wheel a planet teeth 5 by 1 at 0;feast g a at 3;feast h a at 3");
        due("17 of like ones the first", z.soonest(), 0);
        due("17 without feasts", with(BARE).soonest(), -2);
        BrassYear edge = with("brass oil 0 slips 0;wheel a planet teeth 50 by 1 at 0;wheel c moon teeth 59 by 1 at 0;"
                + "wheel d bead teeth 53 by 1 at 0;feast g a at 0,c at 15;feast h a at 0,c at 15,d at 9");
        due("14 two wheels", edge.next(0), 2050);
        due("14 a bead on day 5,000", edge.next(1), 5000);
        edge.set(0, 49);
        edge.set(1, 1);
        edge.set(2, 52);
        due("14 two wheels a day later", edge.next(0), 2051);
        due("14 a bead on day 5,001", edge.next(1), -2);
        BrassYear last = with("brass oil 0 slips 0;wheel a planet teeth 50 by 1 at 0;wheel c planet teeth 53 by 1 at 35;"
                + "wheel d planet teeth 59 by 1 at 0;feast g a at 0,c at 0,d at 44");
        due("14 day 5,000", last.next(0), 5000);
        due("15 day 5,000", last.often(0, 5000), 1);
        due("15 day 4,999", last.often(0, 4999), 0);
        due("17 day 5,000", last.soonest(), 0);
        last.turn();
        due("14 day 4,999 from day 1", last.next(0), 4999);
        last.turnBack();
        last.set(0, 49);
        last.set(1, 34);
        last.set(2, 58);
        due("14 day 5,001", last.next(0), -2);
    }

    private static void promises19To22() {
        BrassYear x = with(FOUR);
        due("19 the least", x.setFor(0, 0, 1), 0);
        due("19 by a jerk", x.setFor(0, 0, 2), -2);
        due("19 the moon isn't there", x.setFor(0, 1, 2), -2);
        due("19 the moon is there", x.setFor(0, 1, 3), 5);
        due("19 moon, by a jerk", x.setFor(1, 1, 2), 3);
        due("19 bead", x.setFor(3, 3, 1), -2);
        due("19 thimble", x.setFor(2, 2, 5000), 1);
        refused("19 too far", x, x.setFor(0, 0, 5001), 2);
        refused("19 day 0", x, x.setFor(0, 0, 0), 2);
        refused("19 not of the feast", x, x.setFor(1, 0, 0), 1);
        refused("19 no wheel", x, x.setFor(4, 0, 1), 1);
        refused("19 no feast", x, x.setFor(0, 4, 1), 1);
        BrassYear y = with("brass oil 0 slips 0;wheel a planet teeth 6 by 1 at 1;gone a 3;gone a 1;"
                + "feast g a at 4;feast h a at 3;wheel c thimble teeth 4 by 1 at 0;feast i c at 2");
        due("19 onto a jerk", y.setFor(0, 0, 1), 2);
        due("19 a gone tooth is never there", y.setFor(0, 1, 1), -2);
        due("19 one that doesn't go", y.setFor(1, 2, 7), 2);
        due("22 one that doesn't go", y.settings(2, 7), 1);
        due("22 no gone one is set", y.settings(0, 1), 1);
        due("22 none", y.settings(1, 4), 0);
        due("20 by", y.byFor(0, 0), 2);
        due("21 by", y.byIn(0, 0), 1);
        due("20 none does", y.byFor(0, 1), -2);
        due("21 none does", y.byIn(0, 1), -2);
        due("20 no oil", y.byFor(1, 2), -2);
        refused("20 not of the feast", y, y.byFor(1, 0), 1);
        refused("21 not of the feast", y, y.byIn(1, 0), 1);
        refused("20 no wheel", y, y.byFor(2, 0), 1);
        refused("21 no feast", y, y.byIn(0, 3), 1);
        due("20 the wheel stays as it is", y.wheel(0, 2), 1);
        BrassYear z = with("brass oil 0 slips 0;wheel a planet teeth 4 by 1 at 0;wheel c planet teeth 20 by 1 at 0;"
                + "feast g a at 0;feast h c at 19;feast i a at 0,c at 12");
        due("20 of like ones the least", z.byFor(0, 0), 2);
        due("21 of like ones the least", z.byIn(0, 0), 2);
        due("20 nine at most", z.byFor(1, 1), 9);
        due("21 nine at most", z.byIn(1, 1), 11);
        due("20 two wheels", z.byFor(1, 2), 3);
        due("21 two wheels", z.byIn(1, 2), 4);
        due("22 each one", z.settings(2, 4), 1);
        refused("22 too far", z, z.settings(0, 5001), 2);
        refused("22 day 0", z, z.settings(0, 0), 2);
        refused("22 no feast", z, z.settings(3, 0), 1);
        BrassYear m = with("brass oil 0 slips 0;wheel a planet teeth 6 by 2 at 0;gone a 0;wheel c planet teeth 6 by 2 at 0;"
                + "gone c 0;feast g a at 1,c at 1");
        due("22 all pairs", m.settings(0, 1), 4);
    }

    private static void promises23To25() {
        BrassYear x = with(FOUR);
        due("23 worth", x.lineWorth(), 12);
        due("24 first", x.lineAt(0), 0);
        due("24 second", x.lineAt(1), 1);
        refused("24 third", x, x.lineAt(2), 1);
        refused("24 -1", x, x.lineAt(-1), 1);
        due("25 in time", x.inTime(), 3);
        BrassYear y = with("brass oil 0 slips 0;wheel a planet teeth 9 by 1 at 0;feast g a at 3;feast h a at 6;"
                + "work k takes 4 worth 1 by h;work l takes 3 worth 1 by g;work n takes 3 worth 1 by h;"
                + "work o takes 9 worth 9 by g");
        due("23 two of four", y.lineWorth(), 2);
        due("24 l first", y.lineAt(0), 1);
        due("24 n behind it", y.lineAt(1), 2);
        due("24 the rest by number", y.lineAt(2), 0);
        due("24 last", y.lineAt(3), 3);
        due("25 l and n", y.inTime(), 6);
        y.turn();
        y.turn();
        y.turn();
        due("23 three days on, the feast is NEXT in nine", y.lineWorth(), 9);
        due("25 three days on", y.inTime(), 8);
        due("24 three days on", y.lineAt(0), 3);
        due("24 the others by number", y.lineAt(1), 0);
        due("23 no works", with(BARE).lineWorth(), 0);
        due("25 no works", with(BARE).inTime(), 0);
        BrassYear like = with("brass oil 0 slips 0;wheel a planet teeth 9 by 1 at 0;feast g a at 3;"
                + "work k takes 9 worth 0 by g;work l takes 1 worth 0 by g");
        due("24 of like ones the first by works", like.lineAt(0), 0);
        due("25 worthless and in time only if so", like.inTime(), 0);
    }

    private static void promises26And27() {
        BrassYear x = with(FOUR);
        due("26 never", x.agree(0), -2);
        due("27 a day from the sky's first", x.drift(0), 1);
        refused("26 the sky says nothing", x, x.agree(1), 6);
        refused("27 the sky says nothing", x, x.drift(1), 6);
        refused("26 no feast", x, x.agree(4), 1);
        refused("27 no feast", x, x.drift(-1), 1);
        BrassYear y = with("brass oil 0 slips 0;wheel a planet teeth 5 by 1 at 0;feast g a at 0;feast h a at 1;"
                + "feast i a at 2;feast j a at 3;gone a 3;sky g every 7 from 0;sky h every 6 from 100;sky i every 6 from 1;"
                + "sky j every 1 from 0");
        due("26 now", y.agree(0), 0);
        due("27 next is day 4, the sky's is day 7", y.drift(0), 3);
        due("26 never: days 1, 5, .. and 100, 106, ..", y.agree(1), -2);
        due("27 not ahead of the sky's first", y.drift(1), 99);
        due("27 the nearest", y.drift(2), 1);
        due("27 it isn't NEXT", y.drift(3), -2);
        due("26 it isn't ever", y.agree(3), -2);
        y.turn();
        due("26 counted from now", y.agree(0), 27);
        due("26 trouble", y.trouble(), 0);
        due("27 from day 1", y.drift(0), 3);
        y.turn();
        due("26 i: days 2, 6, 10, .. and 1, 7, ..", y.agree(2), -2);
        due("27 i: day 6 and 7", y.drift(2), 1);
        BrassYear z = with("brass oil 0 slips 0;wheel a planet teeth 5 by 1 at 1;feast g a at 0;sky g every 9 from 0");
        due("27 behind the sky's", z.drift(0), 4);
        due("26 day 9", z.agree(0), 9);
    }

    private static void promises28To32() {
        BrassYear x = with(FOUR);
        due("28 fits", x.fits(), 1);
        due("29 the tooth", x.fitAt(0), 2);
        refused("29 no more", x, x.fitAt(1), 1);
        refused("29 -1", x, x.fitAt(-1), 1);
        due("30 one fit", x.look(), 1);
        due("31 one fit", x.lookLeaves(), 1);
        due("32 all so", x.judge(2), -2);
        due("32 not smooth on day 1", x.judge(1), 0);
        due("32 not jerked on day 3", x.judge(3), 1);
        due("32 none gone", x.judge(4), 1);
        refused("32 beyond none", x, x.judge(5), 2);
        refused("32 -1", x, x.judge(-1), 2);
        x.turn();
        x.set(3, 3);
        due("28 from day 0 whatever is now", x.fits(), 1);
        due("12 the suspect has no tooth gone", x.comesRound(3), 8);
        BrassYear y = with("brass oil 2 slips 0;wheel a planet teeth 7 by 1 at 0;suspect a");
        due("28 all, none gone among them", y.fits(), 8);
        due("29 by numbers", y.fitAt(6), 6);
        due("29 none gone behind all", y.fitAt(7), -2);
        refused("29 behind none gone", y, y.fitAt(8), 1);
        due("30 day 7: teeth 0 and 1 jerk, ahead of it one each day", y.look(), 7);
        due("31 day 7", y.lookLeaves(), 6);
        due("32 nothing was seen", y.judge(0), -2);
        BrassYear t = with("brass oil 2 slips 0;wheel a thimble teeth 7 by 2 at 0;suspect a;smooth day 3;jerked day 2");
        due("28 thimble", t.fits(), 1);
        due("29 thimble", t.fitAt(0), 4);
        due("32 thimble without oil doesn't jerk", t.judge(6), 1);
        t.oil(50);
        due("28 oil as told at first", t.fits(), 1);
        BrassYear none = with("brass oil 0 slips 0;wheel a thimble teeth 7 by 2 at 0;suspect a;jerked day 1");
        due("28 no fits", none.fits(), 0);
        refused("29 no fits", none, none.fitAt(0), 1);
        due("30 no fits", none.look(), -2);
        due("31 no fits", none.lookLeaves(), -2);
        BrassYear moon = with("brass oil 0 slips 0;wheel a moon teeth 9 by 2 at 1;suspect a;jerked day 1");
        due("28 moon", moon.fits(), 1);
        due("29 moon goes back", moon.fitAt(0), 8);
        BrassYear late = with("brass oil 0 slips 0;wheel a bead teeth 50 by 1 at 2;suspect a");
        due("30 teeth 2 and 3 are met on day 99, the others alone", late.look(), 99);
        due("31 day 99", late.lookLeaves(), 49);
        BrassYear latest = with("brass oil 0 slips 0;wheel a bead teeth 50 by 1 at 2;suspect a;jerked day 99");
        due("28 jerked on day 99", latest.fits(), 2);
        due("29 jerked on day 99", latest.fitAt(1), 3);
        due("30 tooth 3 is met on day 1 already", latest.look(), 1);
        due("31 one of two", latest.lookLeaves(), 1);
        BrassYear bare = with(BARE);
        refused("28 no suspect", bare, bare.fits(), 6);
        refused("29 no suspect", bare, bare.fitAt(0), 6);
        refused("30 no suspect", bare, bare.look(), 6);
        refused("31 no suspect", bare, bare.lookLeaves(), 6);
        refused("32 no suspect", bare, bare.judge(-1), 6);
        due("28 weighed anew", Tapes.tell(x, "brass oil 0 slips 0;wheel a planet teeth 5 by 1 at 0;suspect a"), 1);
        due("28 by the new text", x.fits(), 6);
    }

    private static void promises33And34() {
        BrassYear x = with("brass oil 0 slips 0;wheel a planet teeth 4 by 1 at 0;feast g a at 0;feast h a at 1;"
                + "feast i a at 3;wheel c thimble teeth 4 by 1 at 0;feast j c at 0");
        due("33 no moves", x.value(0, 0), 0);
        due("33 debtor turns", x.value(0, 1), 0);
        due("34 debtor turns", x.moves(0, 1), 0);
        due("33 creditor turns back", x.value(0, 2), 1);
        due("34 all cost one, so the first", x.moves(0, 2), 0);
        due("33 debtor lets be", x.value(1, 1), 0);
        due("34 debtor lets be", x.moves(1, 1), 1);
        due("33 creditor turns", x.value(1, 2), 1);
        due("33 no turning back on day 0", x.value(2, 2), 0);
        due("33 always on", x.value(3, 6), 6);
        due("34 always on", x.moves(3, 6), 0);
        x.turn();
        due("33 on now", x.value(1, 1), 0);
        due("33 on now, back again", x.value(1, 2), 1);
        BrassYear y = with("brass oil 0 slips 0;wheel a planet teeth 5 by 1 at 0;gone a 2;feast g a at 3;feast h a at 1;"
                + "wheel c planet teeth 7 by 2 at 0;feast i a at 4,c at 0");
        y.turn();
        due("34 debtor lets be: a turn jerks", y.moves(0, 1), 1);
        due("34 debtor turns off", y.moves(1, 1), 0);
        y.set(0, 3);
        due("33 debtor flees from a turn back that jerks", y.value(1, 2), 0);
        due("34 debtor flees from a turn back that jerks", y.moves(1, 2), 0);
        BrassYear z = with("brass oil 0 slips 0;wheel a planet teeth 9 by 1 at 0;feast g a at 4;feast h a at 3");
        z.turn();
        z.turn();
        due("33 two days off", z.value(0, 2), 0);
        due("34 debtor waits two days off", z.moves(0, 4), 1);
        due("34 debtor goes back from the feast ahead", z.moves(1, 2), 2);
        refused("33 too many", z, z.value(0, 7), 2);
        refused("33 -1", z, z.value(0, -1), 2);
        refused("33 no feast", z, z.value(2, 7), 1);
        refused("34 none", z, z.moves(0, 0), 2);
        refused("34 too many", z, z.moves(0, 7), 2);
        refused("34 no feast", z, z.moves(-1, 0), 1);
        due("33 now stays", z.now(0), 2);
        BrassYear oiled = with("brass oil 1 slips 0;wheel a thimble teeth 4 by 1 at 0;feast g a at 2");
        due("33 oil is used up", oiled.value(0, 2), 0);
        oiled.oil(1);
        due("33 oil for both", oiled.value(0, 2), 0);
        due("34 debtor lets be and wins", oiled.moves(0, 2), 1);
    }

    private static void promises35And36() {
        BrassYear x = with(FOUR);
        ratio(x, "35 now", x.likely(0, 0, 0, false), x.likely(0, 0, 0, true), 1, 1);
        ratio(x, "35 not now", x.likely(0, 1, 0, false), x.likely(0, 1, 0, true), 0, 1);
        ratio(x, "35 no slip", x.likely(0, 2, 1, false), x.likely(0, 2, 1, true), 3, 4);
        ratio(x, "35 a slip", x.likely(0, 3, 1, false), x.likely(0, 3, 1, true), 1, 4);
        ratio(x, "35 moon slips back", x.likely(1, 1, 1, false), x.likely(1, 1, 1, true), 1, 4);
        ratio(x, "36 moon jerks by the slip", x.jerkMean(1, 1, false), x.jerkMean(1, 1, true), 1, 4);
        ratio(x, "36 none", x.jerkMean(1, 0, false), x.jerkMean(1, 0, true), 0, 1);
        ratio(x, "36 planet, two days: 3/4 from 2, 1/4 from 3", x.jerkMean(0, 2, false), x.jerkMean(0, 2, true), 3, 4);
        ratio(x, "35 planet 5 in two days: 3/4 3/4 by 2, 1/4 3/4 by 3", x.likely(0, 5, 2, false), x.likely(0, 5, 2, true),
                3, 4);
        ratio(x, "35 bead, two days, one slip of two", x.likely(3, 2, 2, false), x.likely(3, 2, 2, true), 3, 8);
        ratio(x, "35 thimble, four days, none", x.likely(2, 2, 4, false), x.likely(2, 2, 4, true), 81, 256);
        ratio(x, "35 six days", x.likely(2, 2, 6, false), x.likely(2, 2, 6, true), 729, 4096);
        refused("35 too far", x, x.likely(0, 0, 7, true), 2);
        refused("35 behind", x, x.likely(0, 0, -1, true), 2);
        refused("35 no tooth", x, x.likely(0, 6, 0, false), 2);
        refused("35 tooth -1", x, x.likely(0, -1, 0, false), 2);
        refused("35 no wheel", x, x.likely(4, 9, 9, true), 1);
        refused("36 too far", x, x.jerkMean(0, 7, false), 2);
        refused("36 behind", x, x.jerkMean(0, -1, false), 2);
        refused("36 no wheel", x, x.jerkMean(-1, 9, false), 1);
        BrassYear y = with("brass oil 0 slips 1;wheel a planet teeth 60 by 1 at 0");
        ratio(y, "35 in a million millions", y.likely(0, 12, 6, false), y.likely(0, 12, 6, true), 1, 1000000000000L);
        BrassYear z = with("brass oil 0 slips 100;wheel a planet teeth 6 by 1 at 0;gone a 1;gone a 3;"
                + "wheel c thimble teeth 6 by 1 at 0;gone c 1");
        ratio(z, "36 by the turn and by the slip", z.jerkMean(0, 1, false), z.jerkMean(0, 1, true), 2, 1);
        ratio(z, "35 by the turn and by the slip", z.likely(0, 4, 1, false), z.likely(0, 4, 1, true), 1, 1);
        ratio(z, "35 slips though it didn't go", z.likely(1, 2, 1, false), z.likely(1, 2, 1, true), 1, 1);
        ratio(z, "36 slips though it didn't go", z.jerkMean(1, 1, false), z.jerkMean(1, 1, true), 1, 1);
    }

    private static void ratio(BrassYear x, String what, long upper, long lower, long wantUpper, long wantLower) {
        due(what + ", upper", upper, wantUpper);
        due(what + ", lower", lower, wantLower);
        due(what + ", trouble", x.trouble(), 0);
    }

    /** From the seed 0 the draws mod 100 are 74, 24, 52, 90, 41, 9, .. */
    private static void promises37To39() {
        BrassYear x = with("brass oil 1 slips 53;wheel a planet teeth 5 by 1 at 0;wheel c moon teeth 5 by 1 at 0;"
                + "wheel d thimble teeth 5 by 1 at 0;gone c 3;gone c 0;feast g a at 1;feast h c at 2;feast i d at 2,a at 1");
        due("37 no days", x.years(1, 9, 0), 0);
        due("37 no slip", x.years(0, 0, 1), 1);
        due("37 a slip onto a gone tooth", x.years(1, 0, 1), 2);
        due("37 a slip of the last", x.years(2, 0, 1), 2);
        due("39 slips of a day", x.slips(0, 1), 2);
        due("38 on that day", x.yearFeasts(0, 0, 1), 1);
        due("38 by a slip", x.yearFeasts(2, 0, 1), 1);
        due("38 not now", x.yearFeasts(0, 0, 0), 0);
        due("37 second day, no slip", x.years(0, 0, 2), 2);
        due("37 second day, a slip behind the turn", x.years(1, 0, 2), 4);
        due("39 no days", x.slips(0, 0), 0);
        due("39 second day", x.slips(0, 2), 4);
        refused("37 seed -1", x, x.years(0, -1, 1), 2);
        refused("37 seed", x, x.years(0, 65537, 1), 2);
        refused("37 too far", x, x.years(0, 0, 401), 2);
        refused("37 behind", x, x.years(0, 0, -1), 2);
        refused("37 no wheel", x, x.years(3, -1, 1), 1);
        refused("38 seed", x, x.yearFeasts(0, 65537, 1), 2);
        refused("38 too far", x, x.yearFeasts(0, 0, 401), 2);
        refused("38 no feast", x, x.yearFeasts(3, -1, 1), 1);
        refused("39 seed", x, x.slips(65537, 1), 2);
        refused("39 too far", x, x.slips(0, 401), 2);
        due("37 now stays", x.wheel(1, 3), 0);
        BrassYear never = with("brass oil 0 slips 0;wheel a planet teeth 5 by 1 at 0;feast g a at 0");
        due("39 never", never.slips(65536, 400), 0);
        due("37 never", never.years(0, 65536, 399), 4);
        due("38 never", never.yearFeasts(0, 65536, 400), 80);
        BrassYear always = with("brass oil 0 slips 100;wheel a planet teeth 5 by 1 at 0;wheel c bead teeth 4 by 1 at 0");
        due("39 always", always.slips(65536, 400), 800);
        due("37 always", always.years(0, 65536, 399), 3);
    }

    private static void promises40And41() {
        BrassYear x = with(FOUR);
        refused("41 day 0", x, x.turnBack(), 5);
        due("40 none jerks", x.turn(), 0);
        due("40 two jerk", x.turn(), 2);
        due("40 day", x.now(0), 2);
        due("40 oil", x.now(1), 1);
        due("40 planet", x.wheel(0, 3), 5);
        due("40 moon", x.wheel(1, 3), 1);
        due("40 thimble", x.wheel(2, 3), 7);
        due("40 bead stays on day 1", x.wheel(3, 3), 1);
        due("41 the moon jerks", x.turnBack(), 1);
        due("41 day", x.now(0), 1);
        due("41 oil stays", x.now(1), 1);
        due("41 planet", x.wheel(0, 3), 3);
        due("41 moon goes up over the gone one", x.wheel(1, 3), 3);
        due("41 thimble", x.wheel(2, 3), 4);
        due("41 bead stays, the number being 1", x.wheel(3, 3), 1);
        due("41 day 0 again", x.turnBack(), 0);
        due("41 bead goes, the number being 0", x.wheel(3, 3), 0);
        due("41 thimble again", x.wheel(2, 3), 1);
        due("41 jerks by all acts", x.now(3), 3);
        refused("41 not on day 0", x, x.turnBack(), 5);
        due("41 acts", x.size(8), 4);
        x.turn();
        due("40 oil is used up", x.now(1), 0);
        x.turn();
        due("40 no oil, none used", x.now(1), 0);
        due("40 thimble without oil", x.wheel(2, 3), 4);
        x.turnBack();
        due("41 thimble without oil", x.wheel(2, 3), 4);
        BrassYear y = with("brass oil 0 slips 0;wheel a planet teeth 5 by 2 at 1;gone a 1;wheel c thimble teeth 4 by 1 at 2;"
                + "gone c 2");
        due("40 one that didn't go doesn't jerk", y.turn(), 0);
        due("40 away from a gone tooth", y.wheel(0, 3), 3);
        due("40 still on a gone tooth", y.wheel(1, 3), 2);
        due("41 back onto a gone tooth", y.turnBack(), 1);
        due("41 back over a gone tooth", y.wheel(0, 3), 0);
    }

    private static void promises42And43() {
        BrassYear x = with(FOUR);
        refused("42 none", x, x.oil(0), 2);
        refused("42 too much", x, x.oil(100), 2);
        due("42 some", x.oil(5), 8);
        due("42 now", x.now(1), 8);
        due("42 no more than 99", x.oil(99), 99);
        refused("42 full", x, x.oil(1), 5);
        refused("42 a number comes first", x, x.oil(0), 2);
        due("42 acts", x.size(8), 2);
        due("43 set", x.set(0, 5), true);
        due("43 trouble", x.trouble(), 0);
        due("43 on top", x.wheel(0, 3), 5);
        refused("43 on top already", x, x.set(0, 5), 5);
        refused("43 gone", x, x.set(0, 4), 2);
        refused("43 no tooth", x, x.set(0, 6), 2);
        refused("43 tooth -1", x, x.set(0, -1), 2);
        refused("43 no wheel", x, x.set(4, -1), 1);
        due("43 acts", x.size(8), 3);
        due("43 no jerk", x.now(3), 0);
        BrassYear y = with(BARE + ";gone a 0");
        refused("43 a gone tooth on top", y, y.set(0, 0), 2);
    }

    private static void promises44To46() {
        BrassYear x = with(FOUR);
        refused("44 nothing", x, x.undo(), 6);
        x.turn();
        x.turn();
        x.oil(9);
        x.set(1, 3);
        due("44 set", x.undo(), true);
        due("44 set undone", x.wheel(1, 3), 1);
        due("44 oil", x.undo(), true);
        due("44 oil undone", x.now(1), 1);
        due("44 turn", x.undo(), true);
        due("44 day", x.now(0), 1);
        due("44 jerks undone", x.now(3), 0);
        due("44 trouble", x.trouble(), 0);
        x.turnBack();
        x.undo();
        due("44 turn back undone", x.now(0), 1);
        due("44 left", x.size(8), 1);
        for (int i = 0; i < 20; i++) {
            x.turn();
        }
        due("44 sixteen are kept", x.size(8), 16);
        for (int i = 0; i < 16; i++) {
            due("44 undo " + i, x.undo(), true);
        }
        refused("44 the seventeenth", x, x.undo(), 6);
        due("44 sixteen days back", x.now(0), 5);
        due("45 first", x.image(), 0);
        x.turn();
        due("45 second", x.image(), 1);
        x.set(0, 0);
        due("45 third", x.image(), 2);
        refused("45 no room", x, x.image(), 3);
        due("45 count", x.size(9), 3);
        due("45 an image is no act", x.size(8), 2);
        refused("46 no such", x, x.back(3), 1);
        refused("46 -1", x, x.back(-1), 1);
        due("46 refused, so acts can be undone", x.size(8), 2);
        due("46 back", x.back(0), true);
        due("46 trouble", x.trouble(), 0);
        due("46 day", x.now(0), 5);
        due("46 nothing to undo", x.size(8), 0);
        refused("46 undo", x, x.undo(), 6);
        due("46 all stay", x.size(9), 3);
        x.turn();
        x.turn();
        due("46 forward", x.back(2), true);
        due("46 day of the third", x.now(0), 6);
        due("46 tooth of the third", x.wheel(0, 3), 0);
        due("46 the first again", x.back(0), true);
        due("46 its day", x.now(0), 5);
    }

    private static void promises47And48() {
        BrassYear x = with("brass oil 7 slips 33;wheel a planet teeth 5 by 1 at 0;wheel c moon teeth 5 by 1 at 0;"
                + "gone a 4;gone a 3;gone c 1;feast g a at 1;feast h a at 0,c at 0;feast i c at 0;work k takes 1 worth 1 by i;"
                + "work l takes 1 worth 1 by g;sky g every 3 from 3;sky i every 4 from 4;sky h every 4 from 4;"
                + "wheel d bead teeth 5 by 1 at 0;suspect d;smooth day 4;jerked day 3;smooth day 5;smooth day 7");
        due("47 first", x.led(0), 1);
        due("47 second", x.led(1), 2);
        led(x, 2);
        led(x, -1);
        x.turn();
        due("47 next day", x.led(0), 0);
        led(x, 1);
        led(x, Integer.MIN_VALUE);
        led(new BrassYear(), 0);
        x.oil(1);
        x.image();
        Tapes.feed(x, "12345678901234567890");
        int[] sizes = {33, 3, 3, 3, 2, 3, 1, 4, 2, 1, 20};
        for (int what = 0; what <= 10; what++) {
            due("48 size " + what, x.size(what), sizes[what]);
        }
        due("48 others", x.size(11), -1);
        due("48 -1", x.size(-1), -1);
    }

    private static void led(BrassYear x, int i) {
        boolean thrown = false;
        try {
            x.led(i);
        } catch (NoSuchElementException e) {
            thrown = true;
        }
        due("47 led " + i + " throws", thrown, true);
    }

    private static void promise49() {
        BrassYear x = with(FOUR);
        refused("49 refused", x, x.wheel(9, 0), 1);
        x.feed(0, 0, 0, 0, 0);
        x.fault();
        x.where();
        x.size(-1);
        led(x, 9);
        due("49 those of which no number is told leave it", x.trouble(), 1);
        due("49 trouble leaves it", x.trouble(), 1);
        x.next(0);
        due("49 not refused", x.trouble(), 0);
        refused("49 again", x, x.next(9), 1);
        x.back(0);
        due("49 of the latest", x.trouble(), 1);
        x.undo();
        due("49 of the latest, another", x.trouble(), 6);
        x.comesRound(0);
        due("49 never isn't refused", x.trouble(), 0);
    }
}
