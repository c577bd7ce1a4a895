import java.util.Arrays;
import java.util.NoSuchElementException;

/**
 * The orrery that rules the year. What each call answers stands in the document, promise by promise; the
 * numbers of the document's terms (kinds, faults, troubles) are the constants below.
 */
public final class BrassYear {
    public static final int NONE = -1;

    private static final int NEVER = -2;

    private static final int TAPE_MOST = 900;
    private static final int WHEELS_MOST = 5;
    private static final int TEETH_LEAST = 4;
    private static final int TEETH_MOST = 60;
    private static final int BY_MOST = 9;
    private static final int GONE_MOST = 2;
    private static final int FEASTS_MOST = 4;
    private static final int WORKS_MOST = 4;
    private static final int SEEN_MOST = 5;
    private static final int OIL_MOST = 99;
    private static final int LAST_LOOK = 99;
    private static final int DAY_MOST = 999999;
    private static final int FAR = 5000;
    private static final int BEYOND = FAR + 1;
    private static final int VERY_FAR = 1000000;
    private static final int MOVES_MOST = 6;
    private static final int CHANCE_DAYS_MOST = 6;
    private static final int YEAR_DAYS_MOST = 400;
    private static final int SEED_MOST = 65536;

    private static final int PLANET = 0;
    private static final int MOON = 1;
    private static final int THIMBLE = 2;
    private static final int BEAD = 3;

    private static final int NONE_SUCH = 1;
    private static final int NUMBER = 2;
    private static final int NO_ROOM = 3;
    private static final int FAULTY = 4;
    private static final int NOT_SO = 5;
    private static final int THERE_IS_NONE = 6;

    /** A state is one row of numbers, so that keeping one for UNDO, an IMAGE or a game is one copy. */
    private static final int DAY = 0;
    private static final int OIL = 1;
    private static final int JERKS = 2;
    private static final int TOPS = 3;
    private static final int STATE_LENGTH = TOPS + WHEELS_MOST;

    private final byte[] tape = new byte[TAPE_MOST];
    private int tapeLength;
    private final Reader reader = new Reader();
    private Orrery told = new Orrery();
    private Orrery draft = new Orrery();
    private final int[] state = new int[STATE_LENGTH];
    private final int[] trial = new int[STATE_LENGTH];
    private int trialSlips;
    private final Past past = new Past();
    private final Calendar calendar = new Calendar();
    private final WorkOrder workOrder = new WorkOrder();
    private final Suspicion suspicion = new Suspicion();
    private final Game game = new Game();
    private final Chances chances = new Chances();
    private int lastFault;
    private int lastTrouble;

    public BrassYear() {
    }

    // ---- the orrery

    public int feed(int a, int b, int c, int d, int e) {
        if (tapeLength + 20 > TAPE_MOST) {
            return NONE;
        }
        append(a);
        append(b);
        append(c);
        append(d);
        append(e);
        return tapeLength;
    }

    private void append(int number) {
        for (int shift = 24; shift >= 0 && tapeLength < TAPE_MOST; shift -= 8) {
            tape[tapeLength] = (byte) (number >> shift);
            tapeLength++;
        }
    }

    public int orrery(int n) {
        if (n < 0 || n > tapeLength) {
            return refuse(NUMBER);
        }
        tapeLength = 0;
        lastFault = reader.read(tape, n, draft);
        if (lastFault != 0) {
            return refuse(FAULTY);
        }
        Orrery old = told;
        told = draft;
        draft = old;
        told.putAtFirst(state);
        past.forget();
        suspicion.forget();
        return grant(told.wheelCount);
    }

    public int fault() {
        return lastFault;
    }

    public int where() {
        return lastTrouble == FAULTY ? reader.place : NONE;
    }

    // ---- now

    public int wheel(int w, int what) {
        if (!hasWheel(w) || what < 0 || what > 5) {
            return refuse(NONE_SUCH);
        }
        Wheel wheel = told.wheels[w];
        switch (what) {
            case 0:
                return grant(wheel.kind);
            case 1:
                return grant(wheel.teeth);
            case 2:
                return grant(wheel.by);
            case 3:
                return grant(state[TOPS + w]);
            case 4:
                return grant(wheel.goneCount);
            default:
                return grant(told.feastsOfWheel(w));
        }
    }

    public int isGone(int w, int tooth) {
        if (!hasWheel(w)) {
            return refuse(NONE_SUCH);
        }
        if (!told.wheels[w].hasTooth(tooth)) {
            return refuse(NUMBER);
        }
        return grant(told.wheels[w].lacks(tooth) ? 1 : 0);
    }

    public int now(int what) {
        if (!hasOrrery() || what < 0 || what > 3) {
            return refuse(NONE_SUCH);
        }
        switch (what) {
            case 0:
                return grant(state[DAY]);
            case 1:
                return grant(state[OIL]);
            case 2:
                return grant(told.feastsOn(state));
            default:
                return grant(state[JERKS]);
        }
    }

    public int work(int k, int what) {
        if (k < 0 || k >= told.workCount || what < 0 || what > 2) {
            return refuse(NONE_SUCH);
        }
        switch (what) {
            case 0:
                return grant(told.workDays[k]);
            case 1:
                return grant(told.workWorth[k]);
            default:
                return grant(told.workFeast[k]);
        }
    }

    // ---- days to come

    public int toothIn(int w, int n) {
        if (!hasWheel(w)) {
            return refuse(NONE_SUCH);
        }
        if (n < 0 || n > VERY_FAR) {
            return refuse(NUMBER);
        }
        return grant(courseOf(w).toothOn(n));
    }

    public int jerks(int w, int n) {
        if (!hasWheel(w)) {
            return refuse(NONE_SUCH);
        }
        if (n < 0 || n > FAR) {
            return refuse(NUMBER);
        }
        return grant(courseOf(w).jerksUntil(n));
    }

    public int comesRound(int w) {
        if (!hasWheel(w)) {
            return refuse(NONE_SUCH);
        }
        if (told.wheels[w].kind == THIMBLE && state[OIL] > 0) {
            return refuse(NOT_SO);
        }
        return grant(courseOf(w).daysRound());
    }

    public int idle(int w) {
        if (!hasWheel(w)) {
            return refuse(NONE_SUCH);
        }
        return grant(told.wheels[w].teeth - courseOf(w).teethUntil(FAR));
    }

    public int next(int f) {
        if (!hasFeast(f)) {
            return refuse(NONE_SUCH);
        }
        return grant(daysToCome().feastFrom(f, 1, FAR));
    }

    public int often(int f, int n) {
        if (!hasFeast(f)) {
            return refuse(NONE_SUCH);
        }
        if (n < 0 || n > FAR) {
            return refuse(NUMBER);
        }
        return grant(daysToCome().feastsUntil(f, n));
    }

    public int meet(int f, int g) {
        if (!hasFeast(f) || !hasFeast(g) || f == g) {
            return refuse(NONE_SUCH);
        }
        return grant(daysToCome().meetingFrom(f, g, 1));
    }

    public int soonest() {
        if (!hasOrrery()) {
            return refuse(NONE_SUCH);
        }
        return grant(daysToCome().soonestFeast());
    }

    public int longestGap(int f) {
        if (!hasFeast(f)) {
            return refuse(NONE_SUCH);
        }
        return grant(daysToCome().widestGap(f));
    }

    // ---- settings

    public int setFor(int w, int f, int n) {
        if (!hasWheelOfFeast(w, f)) {
            return refuse(NONE_SUCH);
        }
        if (n < 1 || n > FAR) {
            return refuse(NUMBER);
        }
        return grant(daysToCome().settingFor(w, f, n));
    }

    public int byFor(int w, int f) {
        if (!hasWheelOfFeast(w, f)) {
            return refuse(NONE_SUCH);
        }
        Calendar days = daysToCome();
        days.tryBys(w, f);
        return grant(days.bestBy);
    }

    public int byIn(int w, int f) {
        if (!hasWheelOfFeast(w, f)) {
            return refuse(NONE_SUCH);
        }
        Calendar days = daysToCome();
        days.tryBys(w, f);
        return grant(days.bestByDays);
    }

    public int settings(int f, int n) {
        if (!hasFeast(f)) {
            return refuse(NONE_SUCH);
        }
        if (n < 1 || n > FAR) {
            return refuse(NUMBER);
        }
        return grant(daysToCome().settingsFor(f, n));
    }

    // ---- works

    public int lineWorth() {
        if (!hasOrrery()) {
            return refuse(NONE_SUCH);
        }
        workOrder.plan(told, daysToCome());
        return grant(workOrder.bestWorth);
    }

    public int lineAt(int i) {
        if (i < 0 || i >= told.workCount) {
            return refuse(NONE_SUCH);
        }
        workOrder.plan(told, daysToCome());
        return grant(workOrder.best[i]);
    }

    public int inTime() {
        if (!hasOrrery()) {
            return refuse(NONE_SUCH);
        }
        workOrder.plan(told, daysToCome());
        return grant(workOrder.bestInTime);
    }

    // ---- the sky

    public int agree(int f) {
        if (!hasFeast(f)) {
            return refuse(NONE_SUCH);
        }
        if (!told.hasSky(f)) {
            return refuse(THERE_IS_NONE);
        }
        return grant(daysToCome().agreeingFrom(f, 0));
    }

    public int drift(int f) {
        if (!hasFeast(f)) {
            return refuse(NONE_SUCH);
        }
        if (!told.hasSky(f)) {
            return refuse(THERE_IS_NONE);
        }
        int in = daysToCome().feastFrom(f, 1, FAR);
        return grant(in == NEVER ? NEVER : told.daysFromSky(f, state[DAY] + in));
    }

    // ---- the suspect

    public int fits() {
        int number = suspectTrouble();
        if (number != 0) {
            return refuse(number);
        }
        suspicion.weigh(told);
        return grant(suspicion.fitCount);
    }

    public int fitAt(int i) {
        int number = suspectTrouble();
        if (number != 0) {
            return refuse(number);
        }
        suspicion.weigh(told);
        if (i < 0 || i >= suspicion.fitCount) {
            return refuse(NONE_SUCH);
        }
        int tooth = suspicion.fit[i];
        return grant(tooth == told.wheels[told.suspect].teeth ? NEVER : tooth);
    }

    public int look() {
        int number = suspectTrouble();
        if (number != 0) {
            return refuse(number);
        }
        suspicion.weigh(told);
        return grant(suspicion.bestDay);
    }

    public int lookLeaves() {
        int number = suspectTrouble();
        if (number != 0) {
            return refuse(number);
        }
        suspicion.weigh(told);
        return grant(suspicion.bestLeft);
    }

    public int judge(int tooth) {
        int number = suspectTrouble();
        if (number != 0) {
            return refuse(number);
        }
        if (tooth < 0 || tooth > told.wheels[told.suspect].teeth) {
            return refuse(NUMBER);
        }
        suspicion.weigh(told);
        return grant(suspicion.firstAgainst(told, tooth));
    }

    private int suspectTrouble() {
        if (!hasOrrery()) {
            return NONE_SUCH;
        }
        return told.suspect == NONE ? THERE_IS_NONE : 0;
    }

    // ---- debtor, creditor

    public int value(int f, int n) {
        if (!hasFeast(f)) {
            return refuse(NONE_SUCH);
        }
        if (n < 0 || n > MOVES_MOST) {
            return refuse(NUMBER);
        }
        return grant(game.play(told, state, f, n));
    }

    public int moves(int f, int n) {
        if (!hasFeast(f)) {
            return refuse(NONE_SUCH);
        }
        if (n < 1 || n > MOVES_MOST) {
            return refuse(NUMBER);
        }
        game.play(told, state, f, n);
        return grant(game.firstMove);
    }

    // ---- slips

    public long likely(int w, int tooth, int n, boolean lower) {
        if (!hasWheel(w)) {
            return refuse(NONE_SUCH);
        }
        if (!told.wheels[w].hasTooth(tooth) || n < 0 || n > CHANCE_DAYS_MOST) {
            return refuse(NUMBER);
        }
        grant(0);
        chances.spread(told, state, w, n);
        return chances.lowest(chances.weights[tooth], lower);
    }

    public long jerkMean(int w, int n, boolean lower) {
        if (!hasWheel(w)) {
            return refuse(NONE_SUCH);
        }
        if (n < 0 || n > CHANCE_DAYS_MOST) {
            return refuse(NUMBER);
        }
        grant(0);
        chances.spread(told, state, w, n);
        return chances.lowest(chances.jerkWeight, lower);
    }

    // ---- years by draws

    public int years(int w, int seed, int n) {
        if (!hasWheel(w)) {
            return refuse(NONE_SUCH);
        }
        if (isNoYear(seed, n)) {
            return refuse(NUMBER);
        }
        liveYears(seed, n, NONE);
        return grant(trial[TOPS + w]);
    }

    public int yearFeasts(int f, int seed, int n) {
        if (!hasFeast(f)) {
            return refuse(NONE_SUCH);
        }
        if (isNoYear(seed, n)) {
            return refuse(NUMBER);
        }
        return grant(liveYears(seed, n, f));
    }

    public int slips(int seed, int n) {
        if (!hasOrrery()) {
            return refuse(NONE_SUCH);
        }
        if (isNoYear(seed, n)) {
            return refuse(NUMBER);
        }
        liveYears(seed, n, NONE);
        return grant(trialSlips);
    }

    private static boolean isNoYear(int seed, int n) {
        return seed < 0 || seed > SEED_MOST || n < 0 || n > YEAR_DAYS_MOST;
    }

    /** Leaves the last day in trial and counts the slips; answers how often feast f (NONE: no feast) was on. */
    private int liveYears(int seed, int n, int f) {
        System.arraycopy(state, 0, trial, 0, STATE_LENGTH);
        trialSlips = 0;
        int feasts = 0;
        int drawn = seed;
        for (int day = 0; day < n; day++) {
            told.goTurn(trial);
            for (int w = 0; w < told.wheelCount; w++) {
                drawn = (75 * drawn + 74) % 65537;
                if (drawn % 100 < told.slipChance) {
                    told.slip(trial, w);
                    trialSlips++;
                }
            }
            if (f != NONE && told.isOn(f, trial)) {
                feasts++;
            }
        }
        return feasts;
    }

    // ---- acts

    public int turn() {
        if (!hasOrrery()) {
            return refuse(NONE_SUCH);
        }
        if (state[DAY] >= DAY_MOST) {
            return refuse(NO_ROOM);
        }
        past.keep(state);
        return grant(told.goTurn(state));
    }

    public int turnBack() {
        if (!hasOrrery()) {
            return refuse(NONE_SUCH);
        }
        if (state[DAY] <= 0) {
            return refuse(NOT_SO);
        }
        past.keep(state);
        return grant(told.goTurnBack(state));
    }

    public int oil(int more) {
        if (!hasOrrery()) {
            return refuse(NONE_SUCH);
        }
        if (more < 1 || more > OIL_MOST) {
            return refuse(NUMBER);
        }
        if (state[OIL] >= OIL_MOST) {
            return refuse(NOT_SO);
        }
        past.keep(state);
        state[OIL] = Math.min(OIL_MOST, state[OIL] + more);
        return grant(state[OIL]);
    }

    public boolean set(int w, int tooth) {
        if (!hasWheel(w)) {
            return deny(NONE_SUCH);
        }
        if (!told.wheels[w].hasTooth(tooth) || told.wheels[w].lacks(tooth)) {
            return deny(NUMBER);
        }
        if (state[TOPS + w] == tooth) {
            return deny(NOT_SO);
        }
        past.keep(state);
        state[TOPS + w] = tooth;
        return allow();
    }

    public boolean undo() {
        if (past.keptCount == 0) {
            return deny(THERE_IS_NONE);
        }
        past.takeLatest(state);
        return allow();
    }

    public int image() {
        if (!hasOrrery()) {
            return refuse(NONE_SUCH);
        }
        if (past.imageCount >= Past.IMAGES_MOST) {
            return refuse(NO_ROOM);
        }
        return grant(past.addImage(state));
    }

    public boolean back(int image) {
        if (image < 0 || image >= past.imageCount) {
            return deny(NONE_SUCH);
        }
        past.takeImage(image, state);
        return allow();
    }

    // ---- what is told

    public int led(int i) throws NoSuchElementException {
        int left = i;
        for (int f = 0; f < told.feastCount; f++) {
            if (told.isOn(f, state)) {
                if (left == 0) {
                    return f;
                }
                left--;
            }
        }
        throw new NoSuchElementException("no such feast is on now");
    }

    public int size(int what) {
        switch (what) {
            case 0:
                return told.slipChance;
            case 1:
                return told.wheelCount;
            case 2:
                return told.goneTeeth();
            case 3:
                return told.feastCount;
            case 4:
                return told.workCount;
            case 5:
                return told.skyCount();
            case 6:
                return told.suspect == NONE ? 0 : 1;
            case 7:
                return told.seenCount;
            case 8:
                return past.keptCount;
            case 9:
                return past.imageCount;
            case 10:
                return tapeLength;
            default:
                return NONE;
        }
    }

    public int trouble() {
        return lastTrouble;
    }

    // ---- helpers of the calls

    private int refuse(int number) {
        lastTrouble = number;
        return NONE;
    }

    private int grant(int answer) {
        lastTrouble = 0;
        return answer;
    }

    private boolean deny(int number) {
        lastTrouble = number;
        return false;
    }

    private boolean allow() {
        lastTrouble = 0;
        return true;
    }

    private boolean hasOrrery() {
        return told.wheelCount > 0;
    }

    private boolean hasWheel(int w) {
        return w >= 0 && w < told.wheelCount;
    }

    private boolean hasFeast(int f) {
        return f >= 0 && f < told.feastCount;
    }

    private boolean hasWheelOfFeast(int w, int f) {
        return hasWheel(w) && hasFeast(f) && told.feastTooth(f, w) != NONE;
    }

    private Course courseOf(int w) {
        return calendar.courseFrom(told, state, w);
    }

    private Calendar daysToCome() {
        calendar.startFrom(told, state);
        return calendar;
    }

    /** A wheel as it is told; where it is stands in a state, not here. */
    private static final class Wheel {
        private int kind;
        private int teeth;
        private int by;
        private int first;
        private int goneCount;
        /** The teeth that are gone, as bits: no wheel has more teeth than a long has bits. */
        private long gone;

        void tell(int newKind, int newTeeth, int newBy, int newFirst) {
            kind = newKind;
            teeth = newTeeth;
            by = newBy;
            first = newFirst;
            goneCount = 0;
            gone = 0L;
        }

        void tellLike(Wheel other) {
            tell(other.kind, other.teeth, other.by, other.first);
            goneCount = other.goneCount;
            gone = other.gone;
        }

        void loseTooth(int tooth) {
            gone |= 1L << tooth;
            goneCount++;
        }

        boolean hasTooth(int tooth) {
            return tooth >= 0 && tooth < teeth;
        }

        boolean lacks(int tooth) {
            return (gone >> tooth & 1L) == 1L;
        }

        int way() {
            return kind == MOON ? -1 : 1;
        }

        boolean goesOn(int day, int oilLeft) {
            if (kind == THIMBLE) {
                return oilLeft > 0;
            }
            return kind != BEAD || (day & 1) == 0;
        }

        /** The tooth reached by so many (fewer than the teeth), be it gone or not. */
        int landing(int tooth, int steps, int sense) {
            int reached = tooth + sense * steps;
            if (reached < 0) {
                return reached + teeth;
            }
            return reached >= teeth ? reached - teeth : reached;
        }

        /** Where the wheel rests if it lands there: further on while the tooth is gone. */
        int resting(int landed, int sense) {
            int tooth = landed;
            for (int i = 0; i < GONE_MOST && (gone >> tooth & 1L) == 1L; i++) {
                tooth += sense;
                if (tooth < 0) {
                    tooth = teeth - 1;
                } else if (tooth >= teeth) {
                    tooth = 0;
                }
            }
            return tooth;
        }
    }

    /** What a text has told: nothing of it changes by acts. */
    private static final class Orrery {
        private int oilAtFirst;
        private int slipChance;
        private int wheelCount;
        private final Wheel[] wheels = new Wheel[WHEELS_MOST];
        private int feastCount;
        private final int[] feastTeeth = new int[FEASTS_MOST * WHEELS_MOST];
        private int workCount;
        private final int[] workDays = new int[WORKS_MOST];
        private final int[] workWorth = new int[WORKS_MOST];
        private final int[] workFeast = new int[WORKS_MOST];
        private final int[] skyEvery = new int[FEASTS_MOST];
        private final int[] skyFrom = new int[FEASTS_MOST];
        private int suspect = NONE;
        private int seenCount;
        private final int[] seenDay = new int[SEEN_MOST];
        private final boolean[] seenJerked = new boolean[SEEN_MOST];

        Orrery() {
            for (int w = 0; w < WHEELS_MOST; w++) {
                wheels[w] = new Wheel();
            }
        }

        void clear() {
            oilAtFirst = 0;
            slipChance = 0;
            wheelCount = 0;
            feastCount = 0;
            workCount = 0;
            suspect = NONE;
            seenCount = 0;
            Arrays.fill(feastTeeth, NONE);
            Arrays.fill(skyEvery, 0);
        }

        void putAtFirst(int[] row) {
            row[DAY] = 0;
            row[OIL] = oilAtFirst;
            row[JERKS] = 0;
            for (int w = 0; w < wheelCount; w++) {
                row[TOPS + w] = wheels[w].first;
            }
        }

        /** The tooth that feast f wants of wheel w; NONE if the wheel isn't of it. */
        int feastTooth(int f, int w) {
            return feastTeeth[f * WHEELS_MOST + w];
        }

        void putFeastTooth(int f, int w, int tooth) {
            feastTeeth[f * WHEELS_MOST + w] = tooth;
        }

        boolean isOn(int f, int[] row) {
            for (int w = 0; w < wheelCount; w++) {
                int tooth = feastTooth(f, w);
                if (tooth != NONE && tooth != row[TOPS + w]) {
                    return false;
                }
            }
            return true;
        }

        int feastsOn(int[] row) {
            int bits = 0;
            for (int f = 0; f < feastCount; f++) {
                if (isOn(f, row)) {
                    bits |= 1 << f;
                }
            }
            return bits;
        }

        int feastsOfWheel(int w) {
            int bits = 0;
            for (int f = 0; f < feastCount; f++) {
                if (feastTooth(f, w) != NONE) {
                    bits |= 1 << f;
                }
            }
            return bits;
        }

        int goneTeeth() {
            int sum = 0;
            for (int w = 0; w < wheelCount; w++) {
                sum += wheels[w].goneCount;
            }
            return sum;
        }

        boolean hasSky(int f) {
            return skyEvery[f] > 0;
        }

        int skyCount() {
            int count = 0;
            for (int f = 0; f < feastCount; f++) {
                if (hasSky(f)) {
                    count++;
                }
            }
            return count;
        }

        /** How many days from that day on until the sky has the feast. */
        int daysToSky(int f, int day) {
            if (day <= skyFrom[f]) {
                return skyFrom[f] - day;
            }
            int over = remainder(day - skyFrom[f], skyEvery[f]);
            return over == 0 ? 0 : skyEvery[f] - over;
        }

        int daysFromSky(int f, int day) {
            int ahead = daysToSky(f, day);
            if (day <= skyFrom[f]) {
                return ahead;
            }
            return Math.min(ahead, remainder(day - skyFrom[f], skyEvery[f]));
        }

        int goTurn(int[] row) {
            int jerked = moveAll(row, 1);
            row[DAY]++;
            if (row[OIL] > 0) {
                row[OIL]--;
            }
            return jerked;
        }

        int goTurnBack(int[] row) {
            row[DAY]--;
            return moveAll(row, -1);
        }

        private int moveAll(int[] row, int sense) {
            int jerked = 0;
            for (int w = 0; w < wheelCount; w++) {
                Wheel wheel = wheels[w];
                if (wheel.goesOn(row[DAY], row[OIL]) && moveOne(row, w, wheel.by, sense * wheel.way())) {
                    jerked++;
                }
            }
            row[JERKS] += jerked;
            return jerked;
        }

        void slip(int[] row, int w) {
            moveOne(row, w, 1, wheels[w].way());
        }

        private boolean moveOne(int[] row, int w, int steps, int sense) {
            int landed = wheels[w].landing(row[TOPS + w], steps, sense);
            row[TOPS + w] = wheels[w].resting(landed, sense);
            return wheels[w].lacks(landed);
        }
    }

    /** Reads the text of an orrery from the left, until its end or its first fault. */
    private static final class Reader {
        private static final int FORM = 1;
        private static final int UNTOLD = 2;
        private static final int AGAIN = 3;
        private static final int BOUNDS = 4;
        private static final int MANY = 5;
        private static final int LACKS = 6;
        private static final int SOUND = 7;

        private static final int END = 0;
        private static final int WORD = 1;
        private static final int WHOLE = 2;
        private static final int SEMICOLON = 3;
        private static final int COMMA = 4;
        private static final int NO_TOKEN = 5;

        /** A word has eight letters at most, so the bytes of one, the last one lowest, are a long. */
        private static final long W_BRASS = 0x6272617373L;
        private static final long W_OIL = 0x6f696cL;
        private static final long W_SLIPS = 0x736c697073L;
        private static final long W_WHEEL = 0x776865656cL;
        private static final long W_PLANET = 0x706c616e6574L;
        private static final long W_MOON = 0x6d6f6f6eL;
        private static final long W_THIMBLE = 0x7468696d626c65L;
        private static final long W_BEAD = 0x62656164L;
        private static final long W_TEETH = 0x7465657468L;
        private static final long W_BY = 0x6279L;
        private static final long W_AT = 0x6174L;
        private static final long W_GONE = 0x676f6e65L;
        private static final long W_FEAST = 0x6665617374L;
        private static final long W_WORK = 0x776f726bL;
        private static final long W_TAKES = 0x74616b6573L;
        private static final long W_WORTH = 0x776f727468L;
        private static final long W_SKY = 0x736b79L;
        private static final long W_EVERY = 0x6576657279L;
        private static final long W_FROM = 0x66726f6dL;
        private static final long W_SUSPECT = 0x73757370656374L;
        private static final long W_JERKED = 0x6a65726b6564L;
        private static final long W_SMOOTH = 0x736d6f6f7468L;
        private static final long W_DAY = 0x646179L;

        private static final int WORD_MOST = 8;
        private static final int DIGITS_MOST = 3;
        private static final int NAMES_MOST = WHEELS_MOST + FEASTS_MOST + WORKS_MOST;
        private static final int WHEEL_NAME = 0;
        private static final int FEAST_NAME = 1;
        private static final int WORK_NAME = 2;

        private byte[] text;
        private int end;
        private Orrery draft;
        private boolean brassTold;
        private int fault;
        private int place;

        /** The token at hand: its first byte, the byte behind it, its sort, what it says; and where the last began. */
        private int at;
        private int behind;
        private int token;
        private int number;
        private long word;
        private int lastAt;

        private int names;
        private final long[] nameWord = new long[NAMES_MOST];
        private final int[] nameSort = new int[NAMES_MOST];
        private final int[] nameNumber = new int[NAMES_MOST];

        /** Answers the fault, 0 without one; then the draft is what the text tells. */
        int read(byte[] bytes, int length, Orrery into) {
            text = bytes;
            end = Math.min(length, bytes.length);
            draft = into;
            draft.clear();
            brassTold = false;
            fault = 0;
            place = NONE;
            behind = 0;
            names = 0;
            step();
            readLine();
            for (int i = 0; i < end && fault == 0 && token == SEMICOLON; i++) {
                step();
                readLine();
            }
            if (token != END) {
                fail(FORM, at);
            }
            if (draft.wheelCount == 0) {
                fail(LACKS, at);
            }
            return fault;
        }

        private void readLine() {
            if (!isLineWord()) {
                fail(FORM, at);
            } else if (is(W_BRASS)) {
                readBrass();
            } else if (!brassTold) {
                fail(LACKS, at);
            } else if (is(W_WHEEL)) {
                readWheel();
            } else if (is(W_GONE)) {
                readGone();
            } else if (is(W_FEAST)) {
                readFeast();
            } else if (is(W_WORK)) {
                readWork();
            } else if (is(W_SKY)) {
                readSky();
            } else if (is(W_SUSPECT)) {
                readSuspect();
            } else {
                readSeen(is(W_JERKED));
            }
        }

        private void readBrass() {
            if (brassTold) {
                fail(AGAIN, at);
            }
            brassTold = true;
            pass(W_BRASS);
            pass(W_OIL);
            draft.oilAtFirst = readWhole(0, OIL_MOST);
            pass(W_SLIPS);
            draft.slipChance = readWhole(0, 100);
        }

        private void readWheel() {
            if (draft.wheelCount >= WHEELS_MOST) {
                fail(MANY, at);
            }
            pass(W_WHEEL);
            tellName(WHEEL_NAME, draft.wheelCount);
            int kind = readKind();
            pass(W_TEETH);
            int teeth = readWhole(TEETH_LEAST, TEETH_MOST);
            pass(W_BY);
            int by = readWhole(1, Math.min(BY_MOST, teeth - 1));
            pass(W_AT);
            int first = readWhole(0, teeth - 1);
            if (fault == 0) {
                draft.wheels[draft.wheelCount].tell(kind, teeth, by, first);
                draft.wheelCount++;
            }
        }

        private int readKind() {
            int kind = PLANET;
            if (is(W_MOON)) {
                kind = MOON;
            } else if (is(W_THIMBLE)) {
                kind = THIMBLE;
            } else if (is(W_BEAD)) {
                kind = BEAD;
            } else if (!is(W_PLANET)) {
                fail(FORM, at);
            }
            step();
            return kind;
        }

        private void readGone() {
            pass(W_GONE);
            int w = readName(WHEEL_NAME);
            if (fault != 0) {
                return;
            }
            Wheel wheel = draft.wheels[w];
            if (wheel.goneCount >= GONE_MOST) {
                fail(MANY, lastAt);
            }
            if (w == draft.suspect) {
                fail(SOUND, lastAt);
            }
            int tooth = readWhole(0, wheel.teeth - 1);
            if (fault == 0 && wheel.lacks(tooth)) {
                fail(AGAIN, lastAt);
            }
            if (fault == 0) {
                wheel.loseTooth(tooth);
            }
        }

        private void readFeast() {
            if (draft.feastCount >= FEASTS_MOST) {
                fail(MANY, at);
            }
            pass(W_FEAST);
            tellName(FEAST_NAME, draft.feastCount);
            readFeastWheel();
            for (int i = 0; i < end && fault == 0 && token == COMMA; i++) {
                step();
                readFeastWheel();
            }
            if (fault == 0) {
                draft.feastCount++;
            }
        }

        private void readFeastWheel() {
            int w = readName(WHEEL_NAME);
            if (fault != 0) {
                return;
            }
            if (draft.feastTooth(draft.feastCount, w) != NONE) {
                fail(AGAIN, lastAt);
            }
            pass(W_AT);
            int tooth = readWhole(0, draft.wheels[w].teeth - 1);
            if (fault == 0) {
                draft.putFeastTooth(draft.feastCount, w, tooth);
            }
        }

        private void readWork() {
            int k = draft.workCount;
            if (k >= WORKS_MOST) {
                fail(MANY, at);
            }
            pass(W_WORK);
            tellName(WORK_NAME, k);
            pass(W_TAKES);
            int days = readWhole(1, 99);
            pass(W_WORTH);
            int worth = readWhole(0, 99);
            pass(W_BY);
            int feast = readName(FEAST_NAME);
            if (fault == 0) {
                draft.workDays[k] = days;
                draft.workWorth[k] = worth;
                draft.workFeast[k] = feast;
                draft.workCount++;
            }
        }

        private void readSky() {
            pass(W_SKY);
            int f = readName(FEAST_NAME);
            if (fault != 0) {
                return;
            }
            if (draft.hasSky(f)) {
                fail(AGAIN, lastAt);
            }
            pass(W_EVERY);
            int every = readWhole(1, 400);
            pass(W_FROM);
            int from = readWhole(0, 400);
            if (fault == 0) {
                draft.skyEvery[f] = every;
                draft.skyFrom[f] = from;
            }
        }

        private void readSuspect() {
            if (draft.suspect != NONE) {
                fail(AGAIN, at);
            }
            pass(W_SUSPECT);
            int w = readName(WHEEL_NAME);
            if (fault != 0) {
                return;
            }
            if (draft.wheels[w].goneCount > 0) {
                fail(SOUND, lastAt);
            }
            draft.suspect = w;
        }

        private void readSeen(boolean jerked) {
            if (draft.seenCount >= SEEN_MOST) {
                fail(MANY, at);
            }
            if (draft.suspect == NONE) {
                fail(LACKS, at);
            }
            step();
            pass(W_DAY);
            int day = readWhole(1, LAST_LOOK);
            for (int i = 0; i < draft.seenCount; i++) {
                if (draft.seenDay[i] == day) {
                    fail(AGAIN, lastAt);
                }
            }
            if (fault == 0) {
                draft.seenDay[draft.seenCount] = day;
                draft.seenJerked[draft.seenCount] = jerked;
                draft.seenCount++;
            }
        }

        /** Only the first fault counts, since the text is met from the left. */
        private void fail(int newFault, int newPlace) {
            if (fault == 0) {
                fault = newFault;
                place = newPlace;
            }
        }

        private void pass(long wanted) {
            if (!is(wanted)) {
                fail(FORM, at);
            }
            step();
        }

        private int readWhole(int least, int most) {
            int answer = number;
            if (token != WHOLE) {
                fail(FORM, at);
            } else if (answer < least || answer > most) {
                fail(BOUNDS, at);
            }
            step();
            return answer;
        }

        private void tellName(int sort, int newNumber) {
            if (token != WORD || isLineWord()) {
                fail(FORM, at);
            }
            if (findName() != NONE) {
                fail(AGAIN, at);
            }
            if (fault == 0 && names < NAMES_MOST) {
                nameWord[names] = word;
                nameSort[names] = sort;
                nameNumber[names] = newNumber;
                names++;
            }
            step();
        }

        /** The number of the wheel or feast named; NONE with a fault. */
        private int readName(int sort) {
            if (token != WORD || isLineWord()) {
                fail(FORM, at);
            }
            int i = findName();
            if (i == NONE || nameSort[i] != sort) {
                fail(UNTOLD, at);
            }
            step();
            return fault == 0 ? nameNumber[i] : NONE;
        }

        private int findName() {
            for (int i = 0; i < names; i++) {
                if (nameWord[i] == word) {
                    return i;
                }
            }
            return NONE;
        }

        private boolean is(long wanted) {
            return token == WORD && word == wanted;
        }

        private boolean isLineWord() {
            return token == WORD && (word == W_BRASS || word == W_WHEEL || word == W_GONE || word == W_FEAST
                    || word == W_WORK || word == W_SKY || word == W_SUSPECT || word == W_JERKED || word == W_SMOOTH);
        }

        private void step() {
            lastAt = at;
            at = behind;
            while (at < end && text[at] == ' ') {
                at++;
            }
            behind = at;
            number = 0;
            word = 0L;
            if (at >= end) {
                token = END;
            } else if (text[at] >= 'a' && text[at] <= 'z') {
                takeWord();
            } else if (text[at] >= '0' && text[at] <= '9') {
                takeWhole();
            } else {
                token = text[at] == ';' ? SEMICOLON : text[at] == ',' ? COMMA : NO_TOKEN;
                behind = at + 1;
            }
        }

        /** All letters that stand together; too many of them are no token. */
        private void takeWord() {
            while (behind < end && text[behind] >= 'a' && text[behind] <= 'z') {
                word = word << 8 | text[behind];
                behind++;
            }
            token = behind - at <= WORD_MOST ? WORD : NO_TOKEN;
        }

        private void takeWhole() {
            while (behind < end && text[behind] >= '0' && text[behind] <= '9') {
                number = number * 10 + (text[behind] - '0');
                behind++;
            }
            token = behind - at <= DIGITS_MOST ? WHOLE : NO_TOKEN;
        }
    }

    /**
     * Where one wheel goes from now on. A wheel has few teeth, so its teeth come round soon: the first of them,
     * as many as are unlike, tell where it is on any day.
     */
    private static final class Course {
        private final int[] teeth = new int[TEETH_MOST];
        private final int[] placeOf = new int[TEETH_MOST];
        private final int[] jerksBefore = new int[TEETH_MOST + 1];
        private int length;
        /** The place of the tooth that comes behind the last one. */
        private int rejoin;
        private int kind;
        private int oilLeft;
        /** 1 if a bead goes on the first day already. */
        private int early;

        void follow(Wheel wheel, int top, int day, int oilNow) {
            kind = wheel.kind;
            oilLeft = oilNow;
            early = (day & 1) == 0 ? 1 : 0;
            Arrays.fill(placeOf, NONE);
            length = 0;
            int tooth = top;
            for (int i = 0; i < TEETH_MOST && placeOf[tooth] == NONE; i++) {
                placeOf[tooth] = i;
                teeth[i] = tooth;
                int landed = wheel.landing(tooth, wheel.by, wheel.way());
                jerksBefore[i + 1] = jerksBefore[i] + (wheel.lacks(landed) ? 1 : 0);
                tooth = wheel.resting(landed, wheel.way());
                length = i + 1;
            }
            rejoin = Math.max(0, placeOf[tooth]);
        }

        /** How often the wheel goes in so many days. */
        int goingsUntil(int days) {
            if (kind == THIMBLE) {
                return Math.min(days, oilLeft);
            }
            return kind == BEAD ? (days + early) / 2 : days;
        }

        /** The first day behind which it has gone so often (1 ..). */
        private int dayOfGoing(int goings) {
            if (kind == THIMBLE && goings > oilLeft) {
                return BEYOND;
            }
            return kind == BEAD ? 2 * goings - early : goings;
        }

        int toothOn(int day) {
            int goings = goingsUntil(day);
            return teeth[goings < length ? goings : rejoin + remainder(goings - rejoin, length - rejoin)];
        }

        int jerksUntil(int day) {
            int goings = goingsUntil(day);
            if (goings <= length || rejoin >= length) {
                return jerksBefore[Math.min(goings, length)];
            }
            int round = length - rejoin;
            int rounds = (goings - rejoin) / round;
            int rest = rejoin + remainder(goings - rejoin, round);
            return jerksBefore[rest] + rounds * (jerksBefore[length] - jerksBefore[rejoin]);
        }

        int daysRound() {
            if (kind == THIMBLE) {
                return 1;
            }
            if (rejoin != 0) {
                return NEVER;
            }
            return kind == BEAD ? 2 * length : length;
        }

        /** How many teeth are on top until that day, today's too. */
        int teethUntil(int day) {
            return Math.min(length, goingsUntil(day) + 1);
        }

        /** The first day from that one on with the tooth on top; more than FAR if there is none until then. */
        int dayFrom(int tooth, int day) {
            int place = placeOf[tooth];
            if (place == NONE) {
                return BEYOND;
            }
            int goings = goingsUntil(day);
            if (place < goings) {
                if (place < rejoin) {
                    return BEYOND;
                }
                place = goings + remainder(place - goings, length - rejoin);
            }
            return place == goings ? day : dayOfGoing(place);
        }
    }

    /** The days to come, by turns alone. Days are told from now: 0 is today. */
    private static final class Calendar {
        private final Course[] courses = new Course[WHEELS_MOST];
        private final Wheel other = new Wheel();
        private final int[] reached = new int[TEETH_MOST];
        private final int[] leap = new int[TEETH_MOST];
        private final int[] spare = new int[TEETH_MOST];
        private Orrery orrery;
        private int[] now;
        private int bestBy;
        private int bestByDays;

        Calendar() {
            for (int w = 0; w < WHEELS_MOST; w++) {
                courses[w] = new Course();
            }
        }

        void startFrom(Orrery newOrrery, int[] row) {
            for (int w = 0; w < newOrrery.wheelCount; w++) {
                courseFrom(newOrrery, row, w);
            }
        }

        Course courseFrom(Orrery newOrrery, int[] row, int w) {
            orrery = newOrrery;
            now = row;
            courses[w].follow(orrery.wheels[w], row[TOPS + w], row[DAY], row[OIL]);
            return courses[w];
        }

        int feastFrom(int f, int day, int last) {
            return firstDay(f, f, false, day, last);
        }

        int meetingFrom(int f, int g, int day) {
            return firstDay(f, g, false, day, FAR);
        }

        int agreeingFrom(int f, int day) {
            return firstDay(f, f, true, day, FAR);
        }

        /**
         * The first day from one to another on which both feasts are on, and the sky has the first if that is
         * asked; NEVER. It leaps to the latest day that one of them must wait for, until none must wait.
         */
        private int firstDay(int f, int g, boolean bySky, int from, int last) {
            int day = from;
            for (int i = from; i <= last && day <= last; i++) {
                int later = waitFor(f, day);
                if (g != f) {
                    later = Math.max(later, waitFor(g, day));
                }
                if (bySky) {
                    later = Math.max(later, day + orrery.daysToSky(f, now[DAY] + day));
                }
                if (later == day) {
                    return day;
                }
                day = later;
            }
            return NEVER;
        }

        private int waitFor(int f, int day) {
            int later = day;
            for (int w = 0; w < orrery.wheelCount; w++) {
                int tooth = orrery.feastTooth(f, w);
                if (tooth != NONE) {
                    later = Math.max(later, courses[w].dayFrom(tooth, day));
                }
            }
            return later;
        }

        int feastsUntil(int f, int last) {
            int count = 0;
            int day = feastFrom(f, 1, last);
            for (int i = 0; i < last && day != NEVER; i++) {
                count++;
                day = feastFrom(f, day + 1, last);
            }
            return count;
        }

        int soonestFeast() {
            int soonest = NEVER;
            int least = BEYOND;
            for (int f = 0; f < orrery.feastCount; f++) {
                int day = feastFrom(f, 1, least - 1);
                if (day != NEVER) {
                    soonest = f;
                    least = day;
                }
            }
            return soonest;
        }

        int widestGap(int f) {
            int widest = NEVER;
            int before = feastFrom(f, 1, FAR);
            for (int i = 0; i < FAR && before != NEVER; i++) {
                int day = feastFrom(f, before + 1, FAR);
                if (day != NEVER) {
                    widest = Math.max(widest, day - before);
                }
                before = day;
            }
            return widest;
        }

        int settingFor(int w, int f, int day) {
            for (int v = 0; v < orrery.wheelCount; v++) {
                int tooth = orrery.feastTooth(f, v);
                if (v != w && tooth != NONE && courses[v].toothOn(day) != tooth) {
                    return NEVER;
                }
            }
            findReached(w, day);
            Wheel wheel = orrery.wheels[w];
            for (int tooth = 0; tooth < wheel.teeth; tooth++) {
                if (!wheel.lacks(tooth) && reached[tooth] == orrery.feastTooth(f, w)) {
                    return tooth;
                }
            }
            return NEVER;
        }

        int settingsFor(int f, int day) {
            int all = 1;
            for (int w = 0; w < orrery.wheelCount && all > 0; w++) {
                if (orrery.feastTooth(f, w) != NONE) {
                    findReached(w, day);
                    all *= countSettings(orrery.wheels[w], orrery.feastTooth(f, w));
                }
            }
            return all;
        }

        private int countSettings(Wheel wheel, int wanted) {
            int count = 0;
            for (int tooth = 0; tooth < wheel.teeth; tooth++) {
                if (!wheel.lacks(tooth) && reached[tooth] == wanted) {
                    count++;
                }
            }
            return count;
        }

        /** For each tooth the one that it leads to until that day; by doubled leaps, since days may be many. */
        private void findReached(int w, int day) {
            Wheel wheel = orrery.wheels[w];
            for (int tooth = 0; tooth < wheel.teeth; tooth++) {
                reached[tooth] = tooth;
                leap[tooth] = wheel.resting(wheel.landing(tooth, wheel.by, wheel.way()), wheel.way());
            }
            for (int left = courses[w].goingsUntil(day); left > 0; left >>= 1) {
                for (int tooth = 0; tooth < wheel.teeth; tooth++) {
                    if ((left & 1) == 1) {
                        reached[tooth] = leap[reached[tooth]];
                    }
                    spare[tooth] = leap[leap[tooth]];
                }
                System.arraycopy(spare, 0, leap, 0, wheel.teeth);
            }
        }

        /** Leaves the course of the wheel as by the last try: start anew before asking for other days. */
        void tryBys(int w, int f) {
            bestBy = NEVER;
            bestByDays = NEVER;
            int least = BEYOND;
            other.tellLike(orrery.wheels[w]);
            for (int by = 1; by <= BY_MOST && by < other.teeth; by++) {
                other.by = by;
                courses[w].follow(other, now[TOPS + w], now[DAY], now[OIL]);
                int day = feastFrom(f, 1, least - 1);
                if (day != NEVER) {
                    bestBy = by;
                    bestByDays = day;
                    least = day;
                }
            }
        }
    }

    /** The order of the works by which most worth is in time. */
    private static final class WorkOrder {
        private final int[] due = new int[WORKS_MOST];
        private final int[] order = new int[WORKS_MOST];
        private final int[] best = new int[WORKS_MOST];
        private int bestWorth;
        private int bestInTime;
        private Orrery orrery;

        void plan(Orrery newOrrery, Calendar days) {
            orrery = newOrrery;
            bestWorth = NONE;
            bestInTime = 0;
            for (int k = 0; k < orrery.workCount; k++) {
                due[k] = days.feastFrom(orrery.workFeast[k], 1, FAR);
            }
            extend(0, 0, 0, 0, 0);
        }

        /** Orders are met from the first by works on, so only a better one takes the place of the best. */
        private void extend(int depth, int used, int days, int worth, int onTime) {
            if (depth >= orrery.workCount || depth >= WORKS_MOST) {
                if (worth > bestWorth) {
                    bestWorth = worth;
                    bestInTime = onTime;
                    System.arraycopy(order, 0, best, 0, WORKS_MOST);
                }
                return;
            }
            for (int k = 0; k < orrery.workCount; k++) {
                int bit = 1 << k;
                if ((used & bit) == 0) {
                    order[depth] = k;
                    int done = days + orrery.workDays[k];
                    boolean good = done <= due[k];
                    extend(depth + 1, used | bit, done, good ? worth + orrery.workWorth[k] : worth,
                            good ? onTime | bit : onTime);
                }
            }
        }
    }

    /** Which tooth of the suspect may be gone. It hangs on the text alone, so it is weighed once for each. */
    private static final class Suspicion {
        private static final int HALF = 50;

        private final Wheel guess = new Wheel();
        /** For each tooth, and behind them for none, the days on which the suspect jerks, as bits. */
        private final long[] jerksEarly = new long[TEETH_MOST + 1];
        private final long[] jerksLate = new long[TEETH_MOST + 1];
        private final int[] fit = new int[TEETH_MOST + 1];
        private int fitCount;
        private int bestDay;
        private int bestLeft;
        private boolean weighed;

        void forget() {
            weighed = false;
        }

        /** Only for an orrery that has a suspect. */
        void weigh(Orrery orrery) {
            if (weighed) {
                return;
            }
            weighed = true;
            fitCount = 0;
            Wheel suspect = orrery.wheels[orrery.suspect];
            for (int tooth = 0; tooth <= suspect.teeth; tooth++) {
                guess.tellLike(suspect);
                if (tooth < suspect.teeth) {
                    guess.loseTooth(tooth);
                }
                recordJerks(tooth, orrery.oilAtFirst);
                if (firstAgainst(orrery, tooth) == NEVER) {
                    fit[fitCount] = tooth;
                    fitCount++;
                }
            }
            chooseDay();
        }

        private void recordJerks(int tooth, int oilAtFirst) {
            jerksEarly[tooth] = 0;
            jerksLate[tooth] = 0;
            int top = guess.first;
            for (int day = 1; day <= LAST_LOOK; day++) {
                if (guess.goesOn(day - 1, oilAtFirst - (day - 1))) {
                    int landed = guess.landing(top, guess.by, guess.way());
                    if (guess.lacks(landed)) {
                        recordJerk(tooth, day);
                    }
                    top = guess.resting(landed, guess.way());
                }
            }
        }

        private void recordJerk(int tooth, int day) {
            if (day < HALF) {
                jerksEarly[tooth] |= 1L << day;
            } else {
                jerksLate[tooth] |= 1L << (day - HALF);
            }
        }

        private boolean jerkedOn(int tooth, int day) {
            long bits = day < HALF ? jerksEarly[tooth] >> day : jerksLate[tooth] >> (day - HALF);
            return (bits & 1L) == 1L;
        }

        /** The first that was seen and isn't so if the tooth is gone; NEVER if all is so. */
        int firstAgainst(Orrery orrery, int tooth) {
            for (int i = 0; i < orrery.seenCount; i++) {
                if (jerkedOn(tooth, orrery.seenDay[i]) != orrery.seenJerked[i]) {
                    return i;
                }
            }
            return NEVER;
        }

        private void chooseDay() {
            bestDay = NEVER;
            bestLeft = NEVER;
            for (int day = 1; day <= LAST_LOOK && fitCount > 0; day++) {
                int jerking = 0;
                for (int i = 0; i < fitCount; i++) {
                    if (jerkedOn(fit[i], day)) {
                        jerking++;
                    }
                }
                int left = Math.max(jerking, fitCount - jerking);
                if (bestLeft == NEVER || left < bestLeft) {
                    bestDay = day;
                    bestLeft = left;
                }
            }
        }
    }

    /** Debtor and creditor at one crank. */
    private static final class Game {
        private static final int MOVE_SORTS = 3;

        private final int[][] rows = new int[MOVES_MOST + 1][STATE_LENGTH];
        private Orrery orrery;
        private int feast;
        private int firstMove;

        int play(Orrery newOrrery, int[] row, int f, int moveCount) {
            orrery = newOrrery;
            feast = f;
            firstMove = 0;
            System.arraycopy(row, 0, rows[0], 0, STATE_LENGTH);
            return worth(moveCount, 0);
        }

        /** Moves are met in their order, so only a better one takes the place of the best. */
        private int worth(int left, int level) {
            if (left <= 0 || level >= MOVES_MOST) {
                return 0;
            }
            boolean creditor = (level & 1) == 1;
            int perfect = creditor ? left : 0;
            int best = NONE;
            for (int move = 0; move < MOVE_SORTS && best != perfect; move++) {
                if (makeMove(move, level)) {
                    int sum = worth(left - 1, level + 1) + (orrery.isOn(feast, rows[level + 1]) ? 1 : 0);
                    if (best == NONE || (creditor ? sum > best : sum < best)) {
                        best = sum;
                        firstMove = level == 0 ? move : firstMove;
                    }
                }
            }
            return best;
        }

        /** Leaves the state behind the move on the next level; false if the move may not be made. */
        private boolean makeMove(int move, int level) {
            int[] row = rows[level + 1];
            System.arraycopy(rows[level], 0, row, 0, STATE_LENGTH);
            if (move == 0) {
                orrery.goTurn(row);
            } else if (move == 2) {
                if (row[DAY] <= 0) {
                    return false;
                }
                orrery.goTurnBack(row);
            }
            return true;
        }
    }

    /** Slips by chance: exact weights, of which all together are 100 to the power of the days. */
    private static final class Chances {
        private long[] weights = new long[TEETH_MOST];
        private long[] coming = new long[TEETH_MOST];
        private long jerkWeight;
        private long whole;

        void spread(Orrery orrery, int[] row, int w, int days) {
            Arrays.fill(weights, 0L);
            weights[row[TOPS + w]] = 1L;
            jerkWeight = 0L;
            whole = 1L;
            Wheel wheel = orrery.wheels[w];
            for (int i = 0; i < days; i++) {
                spreadDay(wheel, wheel.goesOn(row[DAY] + i, row[OIL] - i), orrery.slipChance);
            }
        }

        private void spreadDay(Wheel wheel, boolean goes, int slipChance) {
            Arrays.fill(coming, 0L);
            jerkWeight *= 100L;
            whole *= 100L;
            for (int tooth = 0; tooth < wheel.teeth; tooth++) {
                long weight = weights[tooth];
                if (weight > 0L) {
                    int top = goes ? goOn(wheel, tooth, wheel.by, 100L * weight) : tooth;
                    coming[top] += weight * (100 - slipChance);
                    coming[goOn(wheel, top, 1, weight * slipChance)] += weight * slipChance;
                }
            }
            long[] old = weights;
            weights = coming;
            coming = old;
        }

        /** Where it rests; if it jerks, that counts by its weight. */
        private int goOn(Wheel wheel, int tooth, int steps, long weight) {
            int landed = wheel.landing(tooth, steps, wheel.way());
            if (wheel.lacks(landed)) {
                jerkWeight += weight;
            }
            return wheel.resting(landed, wheel.way());
        }

        /** The upper or the lower number of a weight by the whole, in lowest terms. */
        long lowest(long weight, boolean lower) {
            long divisor = commonDivisor(weight, whole);
            long asked = lower ? whole : weight;
            return divisor > 0L ? asked / divisor : asked;
        }

        /** A hundred rounds are more than two longs can need. */
        private static long commonDivisor(long one, long two) {
            long a = one;
            long b = two;
            for (int i = 0; i < 100 && b != 0L; i++) {
                long rest = a % b;
                a = b;
                b = rest;
            }
            return a;
        }
    }

    /** States that can be gone back to. */
    private static final class Past {
        private static final int KEPT_MOST = 16;
        private static final int IMAGES_MOST = 3;

        private final int[] kept = new int[KEPT_MOST * STATE_LENGTH];
        private final int[] images = new int[IMAGES_MOST * STATE_LENGTH];
        private int keptCount;
        /** The place of the next state kept; places come round, so that the oldest state makes room. */
        private int place;
        private int imageCount;

        void forget() {
            keptCount = 0;
            imageCount = 0;
        }

        void keep(int[] row) {
            System.arraycopy(row, 0, kept, place * STATE_LENGTH, STATE_LENGTH);
            place = place == KEPT_MOST - 1 ? 0 : place + 1;
            keptCount = Math.min(KEPT_MOST, keptCount + 1);
        }

        void takeLatest(int[] row) {
            place = place == 0 ? KEPT_MOST - 1 : place - 1;
            keptCount--;
            System.arraycopy(kept, place * STATE_LENGTH, row, 0, STATE_LENGTH);
        }

        int addImage(int[] row) {
            System.arraycopy(row, 0, images, imageCount * STATE_LENGTH, STATE_LENGTH);
            imageCount++;
            return imageCount - 1;
        }

        void takeImage(int image, int[] row) {
            System.arraycopy(images, image * STATE_LENGTH, row, 0, STATE_LENGTH);
            keptCount = 0;
        }
    }

    /** What is left of a division downwards, 0 or more; 0 where there is nothing to divide by. */
    private static int remainder(int number, int divisor) {
        if (divisor <= 0) {
            return 0;
        }
        int rest = number % divisor;
        return rest < 0 ? rest + divisor : rest;
    }
}
