/** Each sentence of the promises 10 to 22, and of the Term III for them, that names a boundary case; due answers by hand. */
public final class BoundaryDaysTest extends Sentences {
    private static final int LEAST = Integer.MIN_VALUE;
    private static final int MOST = Integer.MAX_VALUE;
    private static final int NEVER = -2;

    private static final String DRY = "brass oil 0 slips 0;";

    /** One of each kind, alike but for it. */
    private static final String KINDS = "brass oil 3 slips 0;wheel a planet teeth 7 by 2 at 1;wheel b moon teeth 7 by 2 at 1;"
            + "wheel c thimble teeth 7 by 2 at 1;wheel d bead teeth 7 by 2 at 1;feast f a at 3;feast g b at 6;feast h c at 0;feast i d at 5";

    /** Since 50, 53 and 59 have no divisor in common, the feast f is on once in 156,350 days: on day 5,000. */
    private static final String LAST = DRY + "wheel a planet teeth 50 by 1 at 0;wheel b planet teeth 53 by 1 at 35;"
            + "wheel c moon teeth 59 by 1 at 0;feast f a at 0,b at 0,c at 15";
    /** The same a day later. */
    private static final String LATER = DRY + "wheel a planet teeth 50 by 1 at 49;wheel b planet teeth 53 by 1 at 34;"
            + "wheel c moon teeth 59 by 1 at 1;feast f a at 0,b at 0,c at 15";
    /** Feasts that are on each day (f, g), and one that never is. */
    private static final String EACH = DRY + "wheel a thimble teeth 4 by 1 at 2;gone a 0;feast f a at 2;feast g a at 2;feast h a at 0";
    private static final String FOUR_FIVE = DRY + "wheel a planet teeth 4 by 1 at 0;wheel b planet teeth 5 by 1 at 0;"
            + "feast f a at 0;feast g b at 0;feast h b at 4;feast i a at 0,b at 0";

    /** As many wheels as there may be, all of them of the feast; the bead is on 0 on days 11 and 12 of twelve. */
    private static final String FIVE = DRY + "wheel a planet teeth 4 by 1 at 0;wheel b moon teeth 60 by 1 at 0;wheel c planet teeth 5 by 2 at 0;"
            + "wheel d thimble teeth 4 by 3 at 2;wheel e bead teeth 6 by 1 at 0;feast f e at 0,d at 2,a at 0,c at 0,b at 0;"
            + "feast g a at 1,e at 1;feast h a at 3,b at 57;feast i a at 2,e at 1";

    public static void main(String[] args) {
        promise10();
        promise11();
        promise12();
        promise13();
        promise14();
        promise15();
        promise16();
        promise17();
        promise18();
        promise19();
        promise19None();
        promises20And21();
        byBounds();
        promise22();
        end();
    }

    private static void noWheels(Case c, int count, String name, Object... rest) {
        for (int no : new int[] {-1, count, LEAST, MOST}) {
            Object[] all = new Object[rest.length + 1];
            all[0] = no;
            System.arraycopy(rest, 0, all, 1, rest.length);
            c.refuses(1, name, all);
        }
    }

    private static void promise10() {
        sentence("10", "The tooth of a wheel that is on top in n days (0 .. 1,000,000)");
        int[][] days = {{1, 3, 5, 0, 2, 4, 6, 1, 3}, {1, 6, 4, 2, 0, 5, 3, 1, 6}, {1, 3, 5, 0, 0, 0, 0, 0, 0}, {1, 3, 3, 5, 5, 0, 0, 2, 2}};
        int[] far = {3, 6, 0, 2};
        int[] almost = {1, 1, 0, 2};
        for (int w = 0; w < 4; w++) {
            for (int n = 0; n < 9; n++) {
                told(KINDS).answers(days[w][n], "toothIn", w, n);
            }
            told(KINDS).answers(far[w], "toothIn", w, 1000000);
            told(KINDS).answers(almost[w], "toothIn", w, 999999);
        }
        told(DRY + "wheel a planet teeth 60 by 1 at 5").answers(4, "toothIn", 0, 59);
        told(DRY + "wheel a planet teeth 60 by 1 at 5").answers(5, "toothIn", 0, 60);
        told(DRY + "wheel a planet teeth 60 by 1 at 5").answers(6, "toothIn", 0, 61);
        int[] tail = {2, 4, 0, 1, 4, 0, 1, 4};
        for (int n = 0; n < tail.length; n++) {
            told(DRY + "wheel a planet teeth 5 by 1 at 2;gone a 2;gone a 3").answers(tail[n], "toothIn", 0, n);
        }
        told(DRY + "wheel a planet teeth 5 by 1 at 2;gone a 2;gone a 3").answers(4, "toothIn", 0, 1000000);
        told(DRY + "wheel a planet teeth 5 by 1 at 2;gone a 2;gone a 3").answers(1, "toothIn", 0, 999999);
        sentence("III", "From NOW, by TURNS alone; the oil there is runs out");
        told(KINDS).after("turn").answers(3, "toothIn", 3, 0);
        told(KINDS).after("turn").answers(3, "toothIn", 3, 1);
        told(KINDS).after("turn").answers(5, "toothIn", 3, 2);
        told(KINDS).after("turn").answers(0, "toothIn", 2, 2);
        told(KINDS).after("turn").answers(0, "toothIn", 2, 3);
        told(KINDS).after("turn").after("oil", 1).answers(2, "toothIn", 2, 4);
        told("brass oil 99 slips 0;wheel a thimble teeth 60 by 1 at 0").answers(38, "toothIn", 0, 98);
        told("brass oil 99 slips 0;wheel a thimble teeth 60 by 1 at 0").answers(39, "toothIn", 0, 99);
        told("brass oil 99 slips 0;wheel a thimble teeth 60 by 1 at 0").answers(39, "toothIn", 0, 100);
        told("brass oil 99 slips 100;wheel a planet teeth 60 by 1 at 0").answers(1, "toothIn", 0, 1);
        told(KINDS + ";suspect a;jerked day 1").answers(3, "toothIn", 0, 1);
        sentence("10", "NONE: 1; 2");
        noWheels(told(KINDS), 4, "toothIn", 0);
        noWheels(told(KINDS), 4, "toothIn", -1);
        untold().refuses(1, "toothIn", 0, 1000001);
        for (int no : new int[] {-1, 1000001, LEAST, MOST}) {
            told(KINDS).refuses(2, "toothIn", 3, no);
        }
    }

    private static void promise11() {
        String gone = "brass oil 2 slips 0;wheel a planet teeth 5 by 1 at 0;gone a 2;wheel b moon teeth 5 by 1 at 0;gone b 0;gone b 4;"
                + "wheel c thimble teeth 4 by 1 at 1;gone c 2;wheel d bead teeth 4 by 3 at 0;gone d 3;"
                + "wheel e thimble teeth 4 by 1 at 0;gone e 0";
        sentence("11", "How often it JERKS in n days (0 .. 5,000)");
        int[] days = {0, 1, 2, 3, 4, 5, 6, 7, 4998, 4999, 5000};
        int[][] due = {{0, 0, 1, 1, 1, 1, 2, 2, 1250, 1250, 1250}, {0, 1, 1, 1, 2, 2, 2, 3, 1666, 1667, 1667},
            {0, 1, 1, 1, 1, 1, 1, 1, 1, 1, 1}, {0, 1, 1, 2, 2, 3, 3, 4, 2499, 2500, 2500}, {0, 0, 0, 0, 0, 0, 0, 0, 0, 0, 0}};
        for (int w = 0; w < 5; w++) {
            for (int i = 0; i < days.length; i++) {
                told(gone).answers(due[w][i], "jerks", w, days[i]);
            }
        }
        told(gone).after("turn").answers(0, "jerks", 3, 1);
        told(gone).after("turn").answers(1, "jerks", 3, 2);
        told(gone).after("turn").answers(1, "jerks", 0, 1);
        int[] tail = {0, 0, 0, 1, 1, 2, 2, 3, 3, 4, 4, 5};
        for (int n = 0; n < tail.length; n++) {
            told(DRY + "wheel a planet teeth 6 by 1 at 2;gone a 2;gone a 5").answers(tail[n], "jerks", 0, n);
        }
        told(DRY + "wheel a planet teeth 6 by 1 at 2;gone a 2;gone a 5").answers(2499, "jerks", 0, 5000);
        told("brass oil 0 slips 0;wheel a planet teeth 4 by 3 at 0;gone a 3").answers(5000, "jerks", 0, 5000);
        told("brass oil 0 slips 100;wheel a planet teeth 60 by 9 at 0").answers(0, "jerks", 0, 5000);
        sentence("11", "NONE: 1; 2");
        noWheels(told(gone), 5, "jerks", 0);
        noWheels(told(gone), 5, "jerks", 5001);
        for (int no : new int[] {-1, 5001, LEAST, MOST}) {
            told(gone).refuses(2, "jerks", 2, no);
        }
    }

    private static void promise12() {
        sentence("12", "Behind how many days (1 ..) it is first as it is NOW again");
        told(DRY + "wheel a planet teeth 4 by 3 at 0;gone a 3").answers(1, "comesRound", 0);
        told(DRY + "wheel a moon teeth 4 by 3 at 3;gone a 0").answers(1, "comesRound", 0);
        told(DRY + "wheel a planet teeth 6 by 4 at 5").answers(3, "comesRound", 0);
        told(DRY + "wheel a planet teeth 4 by 2 at 3").answers(2, "comesRound", 0);
        told(DRY + "wheel a moon teeth 60 by 7 at 9").answers(60, "comesRound", 0);
        told(DRY + "wheel a planet teeth 5 by 1 at 0;gone a 2;gone a 3").answers(3, "comesRound", 0);
        sentence("12", "-2 never");
        told(DRY + "wheel a planet teeth 5 by 1 at 2;gone a 2").answers(NEVER, "comesRound", 0);
        told(DRY + "wheel a planet teeth 5 by 1 at 2;gone a 2").after("turn").answers(4, "comesRound", 0);
        told(DRY + "wheel a planet teeth 4 by 2 at 1;gone a 3").answers(NEVER, "comesRound", 0);
        told(DRY + "wheel a bead teeth 4 by 2 at 1;gone a 3").answers(NEVER, "comesRound", 0);
        told(DRY + "wheel a bead teeth 4 by 2 at 1;gone a 3").after("turn").answers(4, "comesRound", 0);
        sentence("12", "(A bead: behind an even number");
        told(DRY + "wheel a bead teeth 4 by 3 at 0;gone a 3").answers(2, "comesRound", 0);
        told(DRY + "wheel a bead teeth 5 by 1 at 0").answers(10, "comesRound", 0);
        told(DRY + "wheel a bead teeth 5 by 1 at 0").after("turn").answers(10, "comesRound", 0);
        told(DRY + "wheel a bead teeth 60 by 7 at 0").answers(120, "comesRound", 0);
        sentence("12", "a thimble that has no oil: 1");
        told(DRY + "wheel a thimble teeth 5 by 1 at 0").answers(1, "comesRound", 0);
        told(DRY + "wheel a thimble teeth 5 by 1 at 0;gone a 0").answers(1, "comesRound", 0);
        told("brass oil 1 slips 0;wheel a thimble teeth 5 by 1 at 0").after("turn").answers(1, "comesRound", 0);
        sentence("12", "NONE: 1");
        noWheels(told(KINDS), 4, "comesRound");
        sentence("12", "5 (a thimble that has oil)");
        told(KINDS).refuses(5, "comesRound", 2);
        told("brass oil 1 slips 0;wheel a thimble teeth 5 by 1 at 0").refuses(5, "comesRound", 0);
        told(DRY + "wheel a thimble teeth 5 by 1 at 0").after("oil", 1).refuses(5, "comesRound", 0);
        told(KINDS).answers(7, "comesRound", 0);
    }

    private static void promise13() {
        sentence("13", "Teeth that are never on top in 5,000 days from NOW (NOW too): how many");
        told(DRY + "wheel a planet teeth 6 by 1 at 0").answers(0, "idle", 0);
        told(DRY + "wheel a planet teeth 6 by 2 at 0").answers(3, "idle", 0);
        told(DRY + "wheel a moon teeth 60 by 6 at 1").answers(50, "idle", 0);
        told(DRY + "wheel a bead teeth 60 by 7 at 59").answers(0, "idle", 0);
        told(DRY + "wheel a planet teeth 4 by 3 at 0;gone a 3").answers(3, "idle", 0);
        told(DRY + "wheel a planet teeth 5 by 1 at 0;gone a 2;gone a 3").answers(2, "idle", 0);
        told(DRY + "wheel a planet teeth 5 by 1 at 2;gone a 2;gone a 3").answers(1, "idle", 0);
        told(DRY + "wheel a planet teeth 5 by 1 at 2;gone a 2;gone a 3").after("turn").answers(2, "idle", 0);
        told(DRY + "wheel a thimble teeth 60 by 1 at 0").answers(59, "idle", 0);
        told("brass oil 58 slips 0;wheel a thimble teeth 60 by 1 at 0").answers(1, "idle", 0);
        told("brass oil 59 slips 0;wheel a thimble teeth 60 by 1 at 0").answers(0, "idle", 0);
        told("brass oil 99 slips 0;wheel a thimble teeth 60 by 1 at 0").answers(0, "idle", 0);
        sentence("13", "NONE: 1");
        noWheels(told(KINDS), 4, "idle");
        untold().refuses(1, "idle", 0);
    }

    private static void promise14() {
        sentence("III", "NEXT: the first feast from the next day on");
        told(FOUR_FIVE).answers(4, "next", 0);
        told(FOUR_FIVE).answers(5, "next", 1);
        told(FOUR_FIVE).answers(20, "next", 3);
        told(FOUR_FIVE).after("turn").answers(3, "next", 0);
        told(EACH).answers(1, "next", 0);
        told(KINDS).answers(1, "next", 0);
        told(KINDS).answers(1, "next", 1);
        told(KINDS).answers(3, "next", 2);
        told(KINDS).answers(3, "next", 3);
        told(KINDS).after("turn").answers(2, "next", 3);
        told(KINDS).after("turn").after("turn").after("turn").answers(1, "next", 3);
        String tail = DRY + "wheel a planet teeth 6 by 2 at 0;gone a 0;feast f a at 2;feast g a at 4;feast h a at 1;feast i a at 3";
        int[] first = {1, 2, 3, 4};
        int[] second = {NEVER, 1, 2, 3};
        int[] third = {NEVER, NEVER, 1, 2};
        for (int f = 0; f < 4; f++) {
            told(tail).answers(first[f], "next", f);
            told(tail).after("turn").answers(second[f], "next", f);
            told(tail).after("turn").after("turn").answers(third[f], "next", f);
        }
        int[] five = {60, 1, 3, 2};
        for (int f = 0; f < 4; f++) {
            told(FIVE).answers(five[f], "next", f);
            told(FIVE).answers(0, "setFor", f == 2 ? 1 : 4, f, five[f]);
            told(FIVE).answers(1, "settings", f, five[f]);
        }
        told(FIVE).after("turn").answers(59, "next", 0);
        sentence("III", "within 5,000 days");
        told(LAST).answers(5000, "next", 0);
        told(LATER).answers(NEVER, "next", 0);
        told(LATER).after("turn").answers(5000, "next", 0);
        told(LAST).after("turn").answers(4999, "next", 0);
        sentence("14", "NEXT: in how many days; -2");
        told(EACH).answers(NEVER, "next", 2);
        told("brass oil 2 slips 0;wheel a thimble teeth 4 by 1 at 0;feast f a at 3").answers(NEVER, "next", 0);
        told("brass oil 3 slips 0;wheel a thimble teeth 4 by 1 at 0;feast f a at 3").answers(3, "next", 0);
        told(DRY + "wheel a planet teeth 4 by 2 at 0;feast f a at 3").answers(NEVER, "next", 0);
        told(DRY + "wheel a planet teeth 4 by 2 at 1;gone a 3;feast f a at 1").answers(NEVER, "next", 0);
        sentence("14", "NONE: 1");
        noWheels(told(FOUR_FIVE), 4, "next");
        noWheels(told(LAST), 1, "next");
        told(DRY + "wheel a planet teeth 4 by 2 at 0").refuses(1, "next", 0);
    }

    private static void promise15() {
        sentence("15", "How often it is on in the next n days (0 .. 5,000)");
        told(EACH).answers(0, "often", 0, 0);
        told(EACH).answers(1, "often", 0, 1);
        told(EACH).answers(5000, "often", 0, 5000);
        told(EACH).answers(0, "often", 2, 5000);
        told(FOUR_FIVE).answers(0, "often", 0, 3);
        told(FOUR_FIVE).answers(1, "often", 0, 4);
        told(FOUR_FIVE).answers(1250, "often", 0, 5000);
        told(FOUR_FIVE).answers(1249, "often", 0, 4999);
        told(FOUR_FIVE).answers(1000, "often", 2, 5000);
        told(DRY + "wheel a planet teeth 6 by 2 at 2;gone a 0;feast f a at 3;feast g a at 4").answers(1666, "often", 0, 5000);
        told(DRY + "wheel a planet teeth 6 by 2 at 2;gone a 0;feast f a at 3;feast g a at 4").answers(1, "often", 1, 5000);
        told(FIVE).answers(83, "often", 0, 5000);
        told(LAST).answers(1, "often", 0, 5000);
        told(LAST).answers(0, "often", 0, 4999);
        told(LATER).answers(0, "often", 0, 5000);
        told(DRY + "wheel a bead teeth 4 by 1 at 0;feast f a at 1").answers(1, "often", 0, 1);
        told(DRY + "wheel a bead teeth 4 by 1 at 0;feast f a at 1").answers(2, "often", 0, 8);
        told(DRY + "wheel a bead teeth 4 by 1 at 0;feast f a at 1").answers(3, "often", 0, 9);
        sentence("15", "NONE: 1; 2");
        noWheels(told(FOUR_FIVE), 4, "often", 0);
        noWheels(told(FOUR_FIVE), 4, "often", -1);
        for (int no : new int[] {-1, 5001, LEAST, MOST}) {
            told(FOUR_FIVE).refuses(2, "often", 0, no);
        }
    }

    private static void promise16() {
        sentence("16", "In how many days two feasts are on at once first (1 .. 5,000)");
        told(FOUR_FIVE).answers(20, "meet", 0, 1);
        told(FOUR_FIVE).answers(20, "meet", 1, 0);
        told(FOUR_FIVE).answers(4, "meet", 0, 2);
        told(FOUR_FIVE).after("turn").answers(19, "meet", 0, 3);
        told(EACH).answers(1, "meet", 0, 1);
        told(LAST + ";feast g b at 0").answers(5000, "meet", 0, 1);
        told(LAST + ";feast g b at 0").answers(5000, "meet", 1, 0);
        told(LATER + ";feast g b at 0").after("turn").answers(5000, "meet", 0, 1);
        told(FOUR_FIVE + ";sky f every 7 from 0;sky g every 7 from 0").answers(20, "meet", 0, 1);
        sentence("16", "-2");
        told(LATER + ";feast g b at 0").answers(NEVER, "meet", 0, 1);
        told(FOUR_FIVE).answers(NEVER, "meet", 1, 2);
        told(EACH).answers(NEVER, "meet", 0, 2);
        sentence("16", "NONE: 1 (unlike)");
        for (int f = 0; f < 4; f++) {
            told(FOUR_FIVE).refuses(1, "meet", f, f);
        }
        noWheels(told(FOUR_FIVE), 4, "meet", 0);
        for (int no : new int[] {-1, 4, LEAST, MOST}) {
            told(FOUR_FIVE).refuses(1, "meet", 0, no);
            told(FOUR_FIVE).refuses(1, "meet", no, no);
        }
    }

    private static void promise17() {
        sentence("17", "The feast that is NEXT first, of like ones the first");
        told(EACH).answers(0, "soonest");
        told(FOUR_FIVE).answers(0, "soonest");
        told(DRY + "wheel a planet teeth 5 by 1 at 0;feast f a at 0;feast g a at 4;feast h a at 4").answers(1, "soonest");
        told(DRY + "wheel a planet teeth 5 by 1 at 0;feast f a at 2;feast g a at 4;feast h a at 4;feast i a at 1").answers(3, "soonest");
        told(DRY + "wheel a planet teeth 5 by 1 at 0;gone a 1;feast f a at 1;feast g a at 4").answers(1, "soonest");
        told(LAST).answers(0, "soonest");
        sentence("17", "-2");
        told(LATER).answers(NEVER, "soonest");
        told(DRY + "wheel a planet teeth 5 by 1 at 0").answers(NEVER, "soonest");
        told(DRY + "wheel a planet teeth 5 by 1 at 0;gone a 0;feast f a at 0").answers(NEVER, "soonest");
        sentence("17", "NONE: 1 (no ORRERY)");
        untold().refuses(1, "soonest");
    }

    private static void promise18() {
        String rare = "wheel a planet teeth 50 by 1 at %d;wheel b planet teeth 59 by 1 at %d;feast f a at 0,b at 44";
        sentence("18", "The most days between two feasts of its sort, one behind the other, in the next 5,000 days");
        told(EACH).answers(1, "longestGap", 0);
        told(FOUR_FIVE).answers(4, "longestGap", 0);
        told(DRY + String.format(rare, 0, 0)).answers(2950, "longestGap", 0);
        told(DRY + String.format(rare, 1, 1)).answers(2950, "longestGap", 0);
        told(DRY + String.format(rare, 49, 43)).answers(2950, "longestGap", 0);
        told(DRY + "wheel a bead teeth 4 by 1 at 0;feast f a at 1").answers(7, "longestGap", 0);
        told(DRY + "wheel a bead teeth 60 by 1 at 0;feast f a at 0").answers(119, "longestGap", 0);
        told(DRY + "wheel a planet teeth 9 by 1 at 0;wheel b bead teeth 4 by 1 at 0;feast f a at 0,b at 2").answers(63, "longestGap", 0);
        sentence("18", "-2 there are fewer than two");
        told(DRY + String.format(rare, 49, 58)).answers(NEVER, "longestGap", 0);
        told(DRY + String.format(rare, 0, 44)).answers(NEVER, "longestGap", 0);
        told(LAST).answers(NEVER, "longestGap", 0);
        told(LATER).answers(NEVER, "longestGap", 0);
        told(EACH).answers(NEVER, "longestGap", 2);
        told(DRY + "wheel a planet teeth 4 by 1 at 0;wheel b bead teeth 4 by 1 at 3;gone b 3;feast f a at 1,b at 3").answers(NEVER, "longestGap", 0);
        sentence("18", "NONE: 1");
        noWheels(told(FOUR_FIVE), 4, "longestGap");
    }

    private static void promise19() {
        String seven = DRY + "wheel a planet teeth 7 by 1 at 0;feast f a at 5";
        sentence("III", "SET for a feast and n days .. by which, on top NOW, the feast is on the n-th day from NOW");
        told(seven).answers(4, "setFor", 0, 0, 1);
        told(seven).answers(3, "setFor", 0, 0, 2);
        told(seven).answers(6, "setFor", 0, 0, 6);
        told(seven).answers(5, "setFor", 0, 0, 7);
        told(DRY + "wheel a moon teeth 7 by 1 at 0;feast f a at 5").answers(6, "setFor", 0, 0, 1);
        told(DRY + "wheel a moon teeth 7 by 1 at 0;feast f a at 5").answers(0, "setFor", 0, 0, 2);
        told("brass oil 2 slips 0;wheel a thimble teeth 7 by 1 at 0;feast f a at 6").answers(5, "setFor", 0, 0, 1);
        told("brass oil 2 slips 0;wheel a thimble teeth 7 by 1 at 0;feast f a at 6").answers(4, "setFor", 0, 0, 2);
        told("brass oil 2 slips 0;wheel a thimble teeth 7 by 1 at 0;feast f a at 6").answers(4, "setFor", 0, 0, 5000);
        told(DRY + "wheel a thimble teeth 7 by 1 at 0;feast f a at 6").answers(6, "setFor", 0, 0, 5000);
        told(DRY + "wheel a bead teeth 7 by 1 at 0;feast f a at 6").answers(5, "setFor", 0, 0, 1);
        told(DRY + "wheel a bead teeth 7 by 1 at 0;feast f a at 6").answers(5, "setFor", 0, 0, 2);
        told(DRY + "wheel a bead teeth 7 by 1 at 0;feast f a at 6").after("turn").answers(6, "setFor", 0, 0, 1);
        told(DRY + "wheel a bead teeth 7 by 1 at 0;feast f a at 6").answers(6, "setFor", 0, 0, 4998);
        sentence("19", "SET for n days (1 .. 5,000)");
        told(seven).answers(3, "setFor", 0, 0, 5000);
        told(seven).answers(4, "setFor", 0, 0, 4999);
        told(DRY + "wheel a moon teeth 60 by 7 at 0;feast f a at 59").answers(19, "setFor", 0, 0, 5000);
        for (int no : new int[] {0, -1, 5001, LEAST, MOST}) {
            told(seven).refuses(2, "setFor", 0, 0, no);
        }
    }

    private static void promise19None() {
        String two = DRY + "wheel a planet teeth 6 by 2 at 0;gone a 0;wheel b planet teeth 4 by 2 at 0;gone b 3;"
                + "feast f a at 1;feast g a at 2;feast h a at 0;feast i b at 2";
        sentence("III", "(none that is gone)");
        told(two).answers(NEVER, "setFor", 0, 1, 1);
        told(two).answers(1, "setFor", 1, 3, 5000);
        sentence("III", "SET .. the least");
        told(two).answers(4, "setFor", 0, 0, 1);
        told(two).answers(0, "setFor", 1, 3, 1);
        told(two).answers(0, "setFor", 1, 3, 4999);
        sentence("19", "-2 none does");
        told(two).answers(NEVER, "setFor", 0, 2, 1);
        told(two).answers(NEVER, "setFor", 0, 2, 5000);
        told(FOUR_FIVE).answers(NEVER, "setFor", 0, 3, 4);
        told(FOUR_FIVE).answers(3, "setFor", 0, 3, 5);
        told(FOUR_FIVE).answers(1, "setFor", 1, 3, 4);
        told(FOUR_FIVE).answers(NEVER, "setFor", 1, 3, 5);
        told(FIVE).answers(0, "setFor", 4, 0, 60);
        told(FIVE).answers(NEVER, "setFor", 0, 0, 59);
        sentence("19", "NONE: 1 (a wheel that isn't of the feast, too)");
        told(FOUR_FIVE).refuses(1, "setFor", 1, 0, 1);
        told(FOUR_FIVE).refuses(1, "setFor", 0, 1, 5001);
        noWheels(told(FOUR_FIVE), 2, "setFor", 0, 1);
        noWheels(told(FOUR_FIVE), 2, "setFor", 0, 0);
        for (int no : new int[] {-1, 4, LEAST, MOST}) {
            told(FOUR_FIVE).refuses(1, "setFor", 0, no, 1);
            told(FOUR_FIVE).refuses(1, "setFor", 0, no, 0);
        }
    }

    private static void by(Case c, int w, int f, int by, int in) {
        c.answers(by, "byFor", w, f);
        c.answers(in, "byIn", w, f);
    }

    private static void promises20And21() {
        sentence("III", "so that the feast is NEXT soonest");
        by(told(DRY + "wheel a planet teeth 20 by 1 at 0;feast f a at 7"), 0, 0, 7, 1);
        by(told(DRY + "wheel a moon teeth 20 by 1 at 0;feast f a at 17"), 0, 0, 3, 1);
        by(told(FOUR_FIVE), 1, 3, 1, 20);
        by(told(FOUR_FIVE), 0, 3, 2, 10);
        by(told(DRY + "wheel a planet teeth 5 by 1 at 0;gone a 1;feast f a at 2"), 0, 0, 1, 1);
        by(told(DRY + "wheel a bead teeth 5 by 1 at 0;feast f a at 2").after("turn"), 0, 0, 1, 2);
        by(told(LAST), 0, 0, 1, 5000);
        by(told(LATER + ";feast g b at 35"), 1, 1, 1, 1);
        sentence("III", "of like ones the least");
        by(told(DRY + "wheel a planet teeth 5 by 4 at 0;feast f a at 0"), 0, 0, 1, 5);
        by(told(DRY + "wheel a planet teeth 5 by 4 at 0;gone a 1;feast f a at 2"), 0, 0, 1, 1);
        by(told(EACH), 0, 0, 1, 1);
        by(told(DRY + "wheel a planet teeth 60 by 1 at 0;feast f a at 0"), 0, 0, 6, 10);
        sentence("20", "-2 none does");
        told(EACH).answers(NEVER, "byFor", 0, 2);
        told(DRY + "wheel a planet teeth 5 by 1 at 0;gone a 3;feast f a at 3").answers(NEVER, "byFor", 0, 0);
        told(DRY + "wheel a planet teeth 5 by 1 at 0;wheel b thimble teeth 4 by 1 at 0;feast f a at 3,b at 1").answers(NEVER, "byFor", 0, 0);
        sentence("21", "In how many days the feast is NEXT by it; -2");
        told(EACH).answers(NEVER, "byIn", 0, 2);
        told(DRY + "wheel a planet teeth 5 by 1 at 0;gone a 3;feast f a at 3").answers(NEVER, "byIn", 0, 0);
        for (String name : new String[] {"byFor", "byIn"}) {
            sentence(name.equals("byFor") ? "20" : "21", "NONE: 1 (likewise)");
            told(FOUR_FIVE).refuses(1, name, 1, 0);
            told(FOUR_FIVE).refuses(1, name, 0, 1);
            noWheels(told(FOUR_FIVE), 2, name, 3);
            for (int no : new int[] {-1, 4, LEAST, MOST}) {
                told(FOUR_FIVE).refuses(1, name, 0, no);
            }
            untold().refuses(1, name, 0, 0);
        }
    }

    private static void byBounds() {
        sentence("III", "BY: by how many (1 .. 9, less than its teeth) a wheel should go each time");
        by(told(DRY + "wheel a planet teeth 60 by 1 at 0;feast f a at 9"), 0, 0, 9, 1);
        by(told(DRY + "wheel a planet teeth 60 by 1 at 0;feast f a at 10"), 0, 0, 5, 2);
        by(told(DRY + "wheel a planet teeth 60 by 9 at 0;feast f a at 1"), 0, 0, 1, 1);
        by(told(DRY + "wheel a planet teeth 4 by 1 at 0;feast f a at 3"), 0, 0, 3, 1);
        by(told(DRY + "wheel a planet teeth 4 by 1 at 0;feast f a at 0"), 0, 0, 2, 2);
        by(told(DRY + "wheel a planet teeth 9 by 1 at 0;feast f a at 0"), 0, 0, 3, 3);
        by(told(DRY + "wheel a planet teeth 9 by 1 at 0;feast f a at 8"), 0, 0, 8, 1);
        by(told(DRY + "wheel a planet teeth 10 by 1 at 0;feast f a at 9"), 0, 0, 9, 1);
    }

    private static void promise22() {
        String two = DRY + "wheel a planet teeth 6 by 2 at 0;gone a 0;wheel b planet teeth 4 by 2 at 0;gone b 3;"
                + "feast f a at 1;feast g a at 2;feast h a at 1,b at 0;feast i b at 2";
        sentence("22", "How many settings of all its wheels .. make a feast be on the n-th day from NOW (1 .. 5,000)");
        told(two).answers(2, "settings", 0, 1);
        told(two).answers(4, "settings", 2, 1);
        told(two).answers(2, "settings", 3, 5000);
        told(two).answers(1, "settings", 3, 4999);
        told(FOUR_FIVE).answers(1, "settings", 3, 5000);
        told(EACH).answers(1, "settings", 0, 5000);
        told(FIVE).answers(1, "settings", 0, 5000);
        told(DRY + "wheel a bead teeth 6 by 2 at 0;gone a 0;feast f a at 1").answers(2, "settings", 0, 2);
        told(DRY + "wheel a bead teeth 6 by 2 at 0;gone a 0;feast f a at 1").after("turn").answers(1, "settings", 0, 1);
        sentence("22", "(none that is gone)");
        told(two).answers(0, "settings", 1, 1);
        told(EACH).answers(0, "settings", 2, 1);
        told(DRY + "wheel a thimble teeth 6 by 2 at 0;gone a 0;feast f a at 0").answers(0, "settings", 0, 5000);
        sentence("22", "NONE: 1; 2");
        noWheels(told(two), 4, "settings", 1);
        noWheels(told(two), 4, "settings", 0);
        for (int no : new int[] {0, -1, 5001, LEAST, MOST}) {
            told(two).refuses(2, "settings", 0, no);
        }
    }
}
