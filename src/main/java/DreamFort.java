import java.util.NoSuchElementException;

/**
 * A fortress from which a prisoner is let out when somebody who never met him has dreamt of him.
 * The words in capitals in the comments are the Terms of the document.
 */
public final class DreamFort {
    public static final int NONE = -1;

    private static final int MARK_KINDS = 6;
    private static final int ALL_MARKS = 63;
    private static final int MOST_PRISONERS = 6;
    private static final int MOST_SLEEPERS = 6;
    private static final int PAIRS = MOST_SLEEPERS * MOST_PRISONERS;
    private static final int MOST_CHEESE = 9;
    private static final int MOST_STRICT = 6;
    private static final int LAST_NIGHT = 9999;
    private static final int MOST_NIGHTS = 60;
    private static final int CERTAIN = 10000;
    private static final int MOST_BEDS = 99;
    private static final int MOST_TOLD_MORE = 36;
    private static final int MOST_TAPE = 400;
    private static final int FED_BYTES = 20;
    private static final int MOST_ROW_BYTES = 40;
    private static final int NOBODY = 6;
    private static final int MOST_TEXTS = 12;
    private static final int FORTRESS_LINES = 14;
    private static final int LAW_LINES = 12;
    private static final int DEEPEST = 6;
    private static final int LOG_ROWS = 60;
    private static final int LOG_COLUMNS = 4;
    private static final int REMEMBERED_ACTS = 12;
    private static final int SPAN_SEEDS = 6;

    private static final Kind[] KINDS = Kind.values();

    private final int[] tape = new int[MOST_TAPE];
    private int tapeLength;
    private int wrongByte = NONE;
    private final Text text = new Text();
    private final FortressReader fortressReader = new FortressReader();
    private final LawReader lawReader = new LawReader();
    private final Fort fort = new Fort();
    private final Fort scratch = new Fort();
    private final Law law = new Law();
    private final Fort imageFort = new Fort();
    private final Law imageLaw = new Law();
    private boolean imaged;
    private final Fort[] past = new Fort[REMEMBERED_ACTS];
    private int pastNext;
    private int pastCount;
    private final Minds minds = new Minds();
    private final Plans plans = new Plans();
    private final Couples pairing = new Couples();
    private final Rumours rumours = new Rumours();

    public DreamFort() {
        for (int i = 0; i < REMEMBERED_ACTS; i++) {
            past[i] = new Fort();
        }
    }

    // ---- the tape and the texts

    public int feed(int a, int b, int c, int d, int e) {
        if (tapeLength + FED_BYTES > MOST_TAPE) {
            return NONE;
        }
        append(a);
        append(b);
        append(c);
        append(d);
        append(e);
        return tapeLength;
    }

    private void append(int number) {
        for (int shift = 24; shift >= 0; shift -= 8) {
            if (tapeLength < MOST_TAPE) {
                tape[tapeLength] = (number >>> shift) & 255;
                tapeLength++;
            }
        }
    }

    public boolean end(int n) {
        if (n < 0 || n > tapeLength) {
            return false;
        }
        tapeLength = n;
        return true;
    }

    private int useTapeUp() {
        int length = tapeLength;
        tapeLength = 0;
        return length;
    }

    public int fortress() throws IllegalArgumentException, UnsupportedOperationException {
        text.split(tape, useTapeUp());
        fortressReader.draft.copyFrom(fort);
        boolean right = fortressReader.readLines(text, FORTRESS_LINES);
        wrongByte = right ? NONE : text.begin();
        if (!right) {
            throw new IllegalArgumentException("the text of the fortress is wrong");
        }
        if (fort.texts >= MOST_TEXTS) {
            throw new UnsupportedOperationException("there are 12 texts of the fortress");
        }
        fort.copyFrom(fortressReader.draft);
        fort.texts++;
        dropPast();
        return fort.texts;
    }

    public int law() throws IllegalArgumentException {
        text.split(tape, useTapeUp());
        lawReader.draft.clear();
        boolean right = lawReader.readLines(text, LAW_LINES);
        wrongByte = right ? NONE : text.begin();
        if (!right) {
            throw new IllegalArgumentException("the text of the law is wrong");
        }
        law.copyFrom(lawReader.draft);
        dropPast();
        return law.lines;
    }

    public int fault() {
        return wrongByte;
    }

    // ---- what is known of one

    public int prisoner(int prisoner, int what) throws IndexOutOfBoundsException, NoSuchElementException {
        requirePrisoner(prisoner);
        switch (what) {
            case 0:
                return fort.years[prisoner];
            case 1:
                return fort.marks[prisoner];
            case 2:
                return fort.isOut(prisoner) ? 1 : 0;
            case 3:
                return oddsNow(prisoner);
            case 4:
                return striking(prisoner);
            case 5:
                return mistaken(prisoner);
            case 6:
                return dreamersOf(prisoner);
            case 7:
                return enemyOf(prisoner);
            case 8:
                return worthOfEnemy(prisoner);
            default:
                throw new NoSuchElementException("nothing such is known of a prisoner");
        }
    }

    public int sleeper(int sleeper, int what) throws IndexOutOfBoundsException, NoSuchElementException {
        requireSleeper(sleeper);
        switch (what) {
            case 0:
                return fort.sleep[sleeper];
            case 1:
                return fort.cheese[sleeper];
            case 2:
                return fort.isAwake(sleeper) ? 1 : 0;
            case 3:
                return fort.met[sleeper];
            case 4:
                return minds.chanceOf(fort, law, sleeper);
            case 5:
                minds.study(fort, law);
                return minds.dream[sleeper];
            case 6:
                minds.study(fort, law);
                return minds.isGood(sleeper) ? 1 : 0;
            case 7:
                return shareOf(sleeper);
            default:
                throw new NoSuchElementException("nothing such is known of a sleeper");
        }
    }

    public int told(int sleeper, int prisoner) throws IndexOutOfBoundsException {
        requireSleeper(sleeper);
        requirePrisoner(prisoner);
        return fort.toldOf(sleeper, prisoner);
    }

    public int pull(int sleeper, int prisoner) throws IndexOutOfBoundsException {
        requireSleeper(sleeper);
        requirePrisoner(prisoner);
        return minds.pullOf(fort, law, sleeper, prisoner);
    }

    private int striking(int prisoner) {
        int others = 0;
        for (int p = 0; p < fort.prisoners; p++) {
            if (p != prisoner && !fort.isOut(p)) {
                others |= fort.marks[p];
            }
        }
        return Integer.bitCount(fort.marks[prisoner] & ~others);
    }

    private int mistaken(int prisoner) {
        int found = NONE;
        int most = -1;
        for (int p = 0; p < fort.prisoners; p++) {
            int common = Integer.bitCount(fort.marks[p] & fort.marks[prisoner]);
            if (p != prisoner && !fort.isOut(p) && common > most) {
                found = p;
                most = common;
            }
        }
        return found;
    }

    private int dreamersOf(int prisoner) {
        minds.study(fort, law);
        int dreamers = 0;
        for (int s = 0; s < fort.sleepers; s++) {
            if (minds.dream[s] == prisoner) {
                dreamers |= 1 << s;
            }
        }
        return dreamers;
    }

    private int oddsNow(int prisoner) {
        minds.study(fort, law);
        return minds.oddsOf(fort, prisoner, NONE);
    }

    private int enemyOf(int prisoner) {
        minds.study(fort, law);
        int found = NONE;
        int least = 0;
        for (int s = 0; s < fort.sleepers; s++) {
            int odds = minds.oddsOf(fort, prisoner, s);
            if (found == NONE || odds < least) {
                found = s;
                least = odds;
            }
        }
        return found;
    }

    private int worthOfEnemy(int prisoner) {
        int enemy = enemyOf(prisoner);
        if (enemy == NONE) {
            return 0;
        }
        return minds.oddsOf(fort, prisoner, NONE) - minds.oddsOf(fort, prisoner, enemy);
    }

    private int shareOf(int sleeper) {
        int all = fort.toldAllTogether();
        return all == 0 ? 0 : 100 * fort.toldMarksOf(sleeper) / all;
    }

    // ---- acts

    public int nights(int n) throws IllegalArgumentException {
        if (n < 1 || n > MOST_NIGHTS) {
            throw new IllegalArgumentException("so many nights are none");
        }
        remember();
        int before = Integer.bitCount(fort.out);
        for (int i = 0; i < n; i++) {
            minds.passNight(fort, law);
        }
        return Integer.bitCount(fort.out) - before;
    }

    public int tell(int sleeper, int prisoner, int mark) throws IndexOutOfBoundsException, IllegalStateException {
        requireSleeper(sleeper);
        requirePrisoner(prisoner);
        requireMark(mark);
        if ((fort.marks[prisoner] >> mark & 1) == 0) {
            throw new IllegalStateException("he does not have that mark");
        }
        remember();
        fort.addTold(sleeper, prisoner, 1 << mark);
        return Integer.bitCount(fort.toldOf(sleeper, prisoner));
    }

    public int cheese(int sleeper, int n) throws IndexOutOfBoundsException, IllegalArgumentException {
        requireSleeper(sleeper);
        if (n < 1 || n > MOST_CHEESE) {
            throw new IllegalArgumentException("so much cheese is none");
        }
        remember();
        fort.cheese[sleeper] = Math.min(MOST_CHEESE, fort.cheese[sleeper] + n);
        return fort.cheese[sleeper];
    }

    public boolean meet(int sleeper, int prisoner) throws IndexOutOfBoundsException {
        requireSleeper(sleeper);
        requirePrisoner(prisoner);
        remember();
        boolean had = fort.hasMet(sleeper, prisoner);
        fort.met[sleeper] |= 1 << prisoner;
        return !had;
    }

    public boolean wake(int sleeper) throws IndexOutOfBoundsException {
        requireSleeper(sleeper);
        remember();
        boolean was = fort.isAwake(sleeper);
        fort.awake |= 1 << sleeper;
        return !was;
    }

    public int strict(int n) throws IllegalArgumentException {
        if (n < 1 || n > MOST_STRICT) {
            throw new IllegalArgumentException("nobody is so strict");
        }
        remember();
        int was = fort.strict;
        fort.strict = n;
        return was;
    }

    public int retake(int prisoner) throws IndexOutOfBoundsException, IllegalStateException {
        requirePrisoner(prisoner);
        if (!fort.isOut(prisoner)) {
            throw new IllegalStateException("he is not out");
        }
        remember();
        fort.out &= ~(1 << prisoner);
        return Integer.bitCount(fort.out);
    }

    public int forget(int sleeper) throws IndexOutOfBoundsException {
        requireSleeper(sleeper);
        remember();
        int was = fort.toldMarksOf(sleeper);
        fort.clearTold(sleeper);
        return was;
    }

    // ---- odds and plans

    public int within(int prisoner, int n) throws IndexOutOfBoundsException, IllegalArgumentException {
        requirePrisoner(prisoner);
        requireNightsAhead(n);
        int missed = CERTAIN - oddsNow(prisoner);
        int left = CERTAIN;
        for (int i = 0; i < n; i++) {
            left = left * missed / CERTAIN;
        }
        return CERTAIN - left;
    }

    public int soon(int prisoner, int odds) throws IndexOutOfBoundsException, IllegalArgumentException {
        requirePrisoner(prisoner);
        if (odds < 0 || odds > CERTAIN) {
            throw new IllegalArgumentException("such odds are none");
        }
        int missed = CERTAIN - oddsNow(prisoner);
        int left = CERTAIN;
        for (int n = 0; n <= MOST_NIGHTS; n++) {
            if (CERTAIN - left >= odds) {
                return n;
            }
            left = left * missed / CERTAIN;
        }
        return NONE;
    }

    public int need(int sleeper, int prisoner) throws IndexOutOfBoundsException {
        requireSleeper(sleeper);
        requirePrisoner(prisoner);
        minds.study(fort, law);
        return minds.needOf(fort, law, sleeper, prisoner);
    }

    public int cover(int prisoner, int k) throws IndexOutOfBoundsException, IllegalArgumentException {
        requirePrisoner(prisoner);
        requireSleeperNumber(k);
        plans.reckonNeeds(fort, law, minds);
        int chosen = plans.cheapest(fort, prisoner, k);
        return chosen == NONE ? NONE : plans.costOf(prisoner, chosen);
    }

    public int whom(int prisoner, int k) throws IndexOutOfBoundsException, IllegalArgumentException {
        requirePrisoner(prisoner);
        requireSleeperNumber(k);
        plans.reckonNeeds(fort, law, minds);
        return plans.cheapest(fort, prisoner, k);
    }

    public int outs(int prisoner, int b) throws IndexOutOfBoundsException, IllegalArgumentException {
        if (prisoner != NONE) {
            requirePrisoner(prisoner);
        }
        if (b < 0 || b > MOST_TOLD_MORE) {
            throw new IllegalArgumentException("so many marks are none");
        }
        plans.reckonNeeds(fort, law, minds);
        plans.putPrisoners(fort, b);
        return prisoner == NONE ? plans.mostYears : plans.putTo[prisoner];
    }

    public int beds(int prisoner, int n) throws IndexOutOfBoundsException, IllegalArgumentException {
        requirePrisoner(prisoner);
        if (n < 0 || n > MOST_BEDS) {
            throw new IllegalArgumentException("so many beds are none");
        }
        plans.shareBeds(fort, n);
        return plans.bedsOf[prisoner];
    }

    public int never() {
        plans.reckonNeeds(fort, law, minds);
        int found = 0;
        for (int p = 0; p < fort.prisoners; p++) {
            if (!fort.isOut(p) && !plans.isNeededByAny(fort, p)) {
                found |= 1 << p;
            }
        }
        return found;
    }

    // ---- witnesses and rumours

    public int sworn() throws IllegalArgumentException {
        return fittingPrisoners(takeSwornRows());
    }

    public int likely() throws IllegalArgumentException {
        int length = takeSwornRows();
        int fitting = fittingPrisoners(length);
        int found = NONE;
        int fewest = 0;
        for (int p = 0; p < fort.prisoners; p++) {
            int wrong = wrongRowsFor(p, length);
            if ((fitting >> p & 1) == 1 && (found == NONE || wrong < fewest)) {
                found = p;
                fewest = wrong;
            }
        }
        return found;
    }

    public int ask() throws IllegalArgumentException {
        int fitting = fittingPrisoners(takeSwornRows());
        int all = Integer.bitCount(fitting);
        if (all < 2) {
            return NONE;
        }
        int found = NONE;
        int least = 0;
        for (int m = 0; m < MARK_KINDS; m++) {
            int having = Integer.bitCount(fitting & fort.havingMark(m));
            int greater = Math.max(having, all - having);
            if (found == NONE || greater < least) {
                found = m;
                least = greater;
            }
        }
        return found;
    }

    public int rumour(boolean first) throws IllegalArgumentException {
        rumours.hear(fort, scratch, law, minds, tape, takeRumourRows());
        return first ? rumours.first : rumours.fitting;
    }

    public int next() throws IllegalArgumentException {
        rumours.hear(fort, scratch, law, minds, tape, takeRumourRows());
        return rumours.bestSleeper(fort);
    }

    private int takeSwornRows() {
        int length = useTapeUp();
        boolean right = isRowLength(length);
        for (int i = 0; right && i + 1 < length; i += 2) {
            right = tape[i] < MARK_KINDS && tape[i + 1] <= 1;
        }
        if (!right) {
            throw new IllegalArgumentException("the tape has no rows of marks");
        }
        return length;
    }

    private int takeRumourRows() {
        int length = useTapeUp();
        boolean right = isRowLength(length);
        for (int i = 0; right && i + 1 < length; i += 2) {
            right = tape[i] < fort.sleepers && (tape[i + 1] < fort.prisoners || tape[i + 1] == NOBODY);
        }
        if (!right) {
            throw new IllegalArgumentException("the tape has no rows of dreams");
        }
        return length;
    }

    private static boolean isRowLength(int length) {
        return length % 2 == 0 && length <= MOST_ROW_BYTES;
    }

    private int fittingPrisoners(int length) {
        int fitting = 0;
        for (int p = 0; p < fort.prisoners; p++) {
            if (wrongRowsFor(p, length) <= 1) {
                fitting |= 1 << p;
            }
        }
        return fitting;
    }

    private int wrongRowsFor(int prisoner, int length) {
        int wrong = 0;
        for (int i = 0; i + 1 < length; i += 2) {
            if ((fort.marks[prisoner] >> tape[i] & 1) != tape[i + 1]) {
                wrong++;
            }
        }
        return wrong;
    }

    // ---- what is seen of all

    public int like(int prisoner, int other) throws IndexOutOfBoundsException, IllegalArgumentException {
        requirePrisoner(prisoner);
        requirePrisoner(other);
        if (prisoner == other) {
            throw new IllegalArgumentException("both prisoners are one");
        }
        return fort.marks[prisoner] & fort.marks[other];
    }

    public int twice() {
        minds.study(fort, law);
        int once = 0;
        int again = 0;
        for (int s = 0; s < fort.sleepers; s++) {
            if (minds.dream[s] != NONE) {
                int dreamt = 1 << minds.dream[s];
                again |= once & dreamt;
                once |= dreamt;
            }
        }
        return again;
    }

    public int vain() {
        minds.study(fort, law);
        int found = 0;
        for (int s = 0; s < fort.sleepers; s++) {
            if (minds.dream[s] != NONE && !minds.isGood(s)) {
                found |= 1 << s;
            }
        }
        return found;
    }

    public int couples(int sleeper) throws IndexOutOfBoundsException {
        if (sleeper != NONE) {
            requireSleeper(sleeper);
        }
        pairing.putTogether(fort);
        return sleeper == NONE ? pairing.most : pairing.with[sleeper];
    }

    public int gossip() {
        int found = NONE;
        int most = 0;
        for (int s = 0; s < fort.sleepers; s++) {
            int marks = fort.toldMarksOf(s);
            if (marks > most) {
                found = s;
                most = marks;
            }
        }
        return found;
    }

    public int friends(int sleeper, int other) throws IndexOutOfBoundsException, IllegalArgumentException {
        requireSleeper(sleeper);
        requireSleeper(other);
        if (sleeper == other) {
            throw new IllegalArgumentException("both sleepers are one");
        }
        return fort.met[sleeper] & fort.met[other];
    }

    public int rests(int sleeper, int prisoner) throws IndexOutOfBoundsException {
        requireSleeper(sleeper);
        requirePrisoner(prisoner);
        minds.study(fort, law);
        int chance = minds.chance[sleeper];
        boolean good = minds.dream[sleeper] == prisoner && minds.isGood(sleeper);
        int years = fort.years[prisoner];
        int found = 0;
        for (int choice = 0; choice < 4; choice++) {
            int teller = choice / 2;
            int enemy = choice % 2;
            if (tellerHas(teller, enemy, chance, good) >= tellerHas(1 - teller, enemy, chance, good)
                    && enemyHas(teller, enemy, years) >= enemyHas(teller, 1 - enemy, years)) {
                found |= 1 << choice;
            }
        }
        return found;
    }

    private static int tellerHas(int teller, int enemy, int chance, boolean good) {
        if (teller == 0) {
            return enemy == 0 ? -2 : chance / 10;
        }
        return enemy == 1 && good ? chance / 20 : 0;
    }

    private static int enemyHas(int teller, int enemy, int years) {
        if (teller == 0) {
            return enemy == 0 ? 1 : -(years / 10);
        }
        return enemy == 0 ? -1 : 0;
    }

    public int longest() {
        int found = NONE;
        int most = -1;
        for (int p = 0; p < fort.prisoners; p++) {
            if (!fort.isOut(p) && fort.years[p] > most) {
                found = p;
                most = fort.years[p];
            }
        }
        return found;
    }

    public int out() {
        return fort.out;
    }

    public int awake() {
        return fort.awake;
    }

    public int twins() {
        int pairs = 0;
        for (int s = 0; s < fort.sleepers; s++) {
            for (int other = s + 1; other < fort.sleepers; other++) {
                if (fort.sleep[s] == fort.sleep[other] && fort.cheese[s] == fort.cheese[other]) {
                    pairs++;
                }
            }
        }
        return pairs;
    }

    public int mark(int mark) throws IndexOutOfBoundsException {
        requireMark(mark);
        return fort.havingMark(mark);
    }

    public int sound() {
        minds.study(fort, law);
        int found = NONE;
        int most = -1;
        for (int s = 0; s < fort.sleepers; s++) {
            if (minds.chance[s] > most) {
                found = s;
                most = minds.chance[s];
            }
        }
        return found;
    }

    // ---- nights that are only thought of

    public int ahead(int sleeper, int prisoner, int n) throws IndexOutOfBoundsException, IllegalArgumentException {
        requireSleeper(sleeper);
        requirePrisoner(prisoner);
        requireNightsAhead(n);
        scratch.copyFrom(fort);
        for (int i = 0; i < n; i++) {
            minds.closeNight(scratch, law);
        }
        return scratch.toldOf(sleeper, prisoner);
    }

    public int trial(int n, boolean dreams) throws IllegalArgumentException {
        requireNightsAhead(n);
        tryNights(n, fort.seed);
        return dreams ? minds.dreams : scratch.out;
    }

    public int span(int n, boolean most) throws IllegalArgumentException {
        requireNightsAhead(n);
        tryNights(n, 1);
        int found = scratch.yearsOut();
        for (int seed = 2; seed <= SPAN_SEEDS; seed++) {
            tryNights(n, seed);
            int years = scratch.yearsOut();
            found = most ? Math.max(found, years) : Math.min(found, years);
        }
        return found;
    }

    private void tryNights(int n, int seed) {
        scratch.copyFrom(fort);
        scratch.seed = seed;
        minds.dreams = 0;
        for (int i = 0; i < n; i++) {
            minds.passNight(scratch, law);
        }
    }

    // ---- the log, acts undone, the image

    public int led(int prisoner, boolean night) throws IndexOutOfBoundsException {
        requirePrisoner(prisoner);
        int rows = 0;
        int latest = NONE;
        for (int ago = 0; ago < fort.logged; ago++) {
            if (fort.logEntry(ago, 2) == prisoner) {
                rows++;
                latest = latest == NONE ? fort.logEntry(ago, 0) : latest;
            }
        }
        return night ? latest : rows;
    }

    public int log(int ago, int what) throws NoSuchElementException {
        if (what < 0 || what >= LOG_COLUMNS) {
            throw new NoSuchElementException("nothing such is in the log");
        }
        return fort.logEntry(ago, what);
    }

    public int seed(int n) {
        int was = fort.seed;
        fort.seed = n;
        return was;
    }

    public boolean undo() {
        if (pastCount == 0) {
            return false;
        }
        pastNext = (pastNext + REMEMBERED_ACTS - 1) % REMEMBERED_ACTS;
        pastCount--;
        fort.copyFrom(past[pastNext]);
        return true;
    }

    private void remember() {
        past[pastNext].copyFrom(fort);
        pastNext = (pastNext + 1) % REMEMBERED_ACTS;
        pastCount = Math.min(REMEMBERED_ACTS, pastCount + 1);
    }

    private void dropPast() {
        pastNext = 0;
        pastCount = 0;
    }

    public void image() {
        imageFort.copyFrom(fort);
        imageLaw.copyFrom(law);
        imaged = true;
    }

    public boolean back() {
        if (!imaged) {
            return false;
        }
        fort.copyFrom(imageFort);
        law.copyFrom(imageLaw);
        dropPast();
        return true;
    }

    public int count(int what) {
        switch (what) {
            case 0:
                return fort.prisoners;
            case 1:
                return fort.sleepers;
            case 2:
                return fort.texts;
            case 3:
                return law.lines;
            case 4:
                return fort.night;
            case 5:
                return fort.strict;
            case 6:
                return fort.yearsOut();
            case 7:
                return fort.toldAllTogether();
            case 8:
                return fort.logged;
            case 9:
                return pastCount;
            default:
                return NONE;
        }
    }

    // ---- what a call may ask for

    private void requirePrisoner(int prisoner) {
        if (prisoner < 0 || prisoner >= fort.prisoners) {
            throw new IndexOutOfBoundsException("there is no such prisoner");
        }
    }

    private void requireSleeper(int sleeper) {
        if (sleeper < 0 || sleeper >= fort.sleepers) {
            throw new IndexOutOfBoundsException("there is no such sleeper");
        }
    }

    private static void requireMark(int mark) {
        if (mark < 0 || mark >= MARK_KINDS) {
            throw new IndexOutOfBoundsException("there is no such mark");
        }
    }

    private static void requireNightsAhead(int n) {
        if (n < 0 || n > MOST_NIGHTS) {
            throw new IllegalArgumentException("so many nights are none");
        }
    }

    private static void requireSleeperNumber(int k) {
        if (k < 1 || k > MOST_SLEEPERS) {
            throw new IllegalArgumentException("so many sleepers are none");
        }
    }

    /** All that acts and texts of the fortress may change. */
    private static final class Fort {
        private int prisoners;
        private int sleepers;
        private int texts;
        private int strict = 2;
        private int night;
        private int seed = 1;
        private int out;
        private int awake;
        private final int[] years = new int[MOST_PRISONERS];
        private final int[] marks = new int[MOST_PRISONERS];
        private final int[] sleep = new int[MOST_SLEEPERS];
        private final int[] cheese = new int[MOST_SLEEPERS];
        private final int[] met = new int[MOST_SLEEPERS];
        private final int[] toldMarks = new int[PAIRS];
        private final int[] logRows = new int[LOG_ROWS * LOG_COLUMNS];
        private int logNext;
        private int logged;

        void copyFrom(Fort other) {
            prisoners = other.prisoners;
            sleepers = other.sleepers;
            texts = other.texts;
            strict = other.strict;
            night = other.night;
            seed = other.seed;
            out = other.out;
            awake = other.awake;
            System.arraycopy(other.years, 0, years, 0, MOST_PRISONERS);
            System.arraycopy(other.marks, 0, marks, 0, MOST_PRISONERS);
            System.arraycopy(other.sleep, 0, sleep, 0, MOST_SLEEPERS);
            System.arraycopy(other.cheese, 0, cheese, 0, MOST_SLEEPERS);
            System.arraycopy(other.met, 0, met, 0, MOST_SLEEPERS);
            System.arraycopy(other.toldMarks, 0, toldMarks, 0, PAIRS);
            System.arraycopy(other.logRows, 0, logRows, 0, LOG_ROWS * LOG_COLUMNS);
            logNext = other.logNext;
            logged = other.logged;
        }

        boolean isOut(int p) {
            return (out >> p & 1) == 1;
        }

        boolean isAwake(int s) {
            return (awake >> s & 1) == 1;
        }

        boolean hasMet(int s, int p) {
            return (met[s] >> p & 1) == 1;
        }

        int toldOf(int s, int p) {
            return toldMarks[s * MOST_PRISONERS + p];
        }

        void addTold(int s, int p, int bits) {
            toldMarks[s * MOST_PRISONERS + p] |= bits;
        }

        void fadeLeastMark(int s, int p) {
            int bits = toldOf(s, p);
            toldMarks[s * MOST_PRISONERS + p] = bits & (bits - 1);
        }

        void clearTold(int s) {
            for (int p = 0; p < MOST_PRISONERS; p++) {
                toldMarks[s * MOST_PRISONERS + p] = 0;
            }
        }

        int toldMarksOf(int s) {
            int sum = 0;
            for (int p = 0; p < prisoners; p++) {
                sum += Integer.bitCount(toldOf(s, p));
            }
            return sum;
        }

        int toldAllTogether() {
            int sum = 0;
            for (int s = 0; s < sleepers; s++) {
                sum += toldMarksOf(s);
            }
            return sum;
        }

        /** PRISONERS about whom it was TOLD something, as bits. */
        int heardOf(int s) {
            int bits = 0;
            for (int p = 0; p < prisoners; p++) {
                if (toldOf(s, p) != 0) {
                    bits |= 1 << p;
                }
            }
            return bits;
        }

        boolean isShared(int s, int p) {
            for (int other = 0; other < sleepers; other++) {
                if (other != s && toldOf(other, p) != 0) {
                    return true;
                }
            }
            return false;
        }

        int havingMark(int m) {
            int bits = 0;
            for (int p = 0; p < prisoners; p++) {
                bits |= (marks[p] >> m & 1) << p;
            }
            return bits;
        }

        int yearsOut() {
            int sum = 0;
            for (int p = 0; p < prisoners; p++) {
                if (isOut(p)) {
                    sum += years[p];
                }
            }
            return sum;
        }

        int draw() {
            seed = 1103515245 * seed + 12345;
            return seed >>> 16 & 32767;
        }

        void addLogRow(int s, int p, int good) {
            int at = logNext * LOG_COLUMNS;
            logRows[at] = night;
            logRows[at + 1] = s;
            logRows[at + 2] = p;
            logRows[at + 3] = good;
            logNext = (logNext + 1) % LOG_ROWS;
            logged = Math.min(LOG_ROWS, logged + 1);
        }

        int logEntry(int ago, int column) {
            if (ago < 0 || ago >= logged) {
                return NONE;
            }
            int row = (logNext + LOG_ROWS - 1 - ago) % LOG_ROWS;
            return logRows[row * LOG_COLUMNS + column];
        }
    }

    /** What a thing in a text can be: a word or sign that is spelled out, or one of the kinds without a spelling. */
    private enum Kind {
        END("", NONE), NUMBER("", NONE), WORD("", NONE), OTHER("", NONE),
        SEMICOLON(";", NONE), OPEN("(", NONE), CLOSE(")", NONE),
        LESS("<", NONE), MORE(">", NONE), PLUS("+", NONE),
        PRISONER("prisoner", Law.PRISONER), SLEEPER("sleeper", Law.SLEEPER), SLEEP("sleep", Law.SLEEP),
        CHEESE("cheese", Law.CHEESE), YEARS("years", Law.YEARS), MARKS("marks", Law.MARKS), TOLD("told", Law.TOLD),
        MET("met", Law.MET), SHARED("shared", Law.SHARED), AWAKE("awake", Law.AWAKE),
        STRICT("strict", NONE), NIGHT("night", NONE), PULL("pull", NONE), WAKE("wake", NONE), FADE("fade", NONE),
        IF("if", NONE), OR("or", NONE), AND("and", NONE), NOT("not", NONE);

        private final String spelling;
        /** The fact of THE LAW that the word asks for; NONE. */
        private final int fact;

        Kind(String spelling, int fact) {
            this.spelling = spelling;
            this.fact = fact;
        }

        boolean isSpelled(int[] bytes, int begin, int behind) {
            int length = spelling.length();
            if (behind - begin != length) {
                return false;
            }
            for (int i = 0; i < length; i++) {
                if (bytes[begin + i] != spelling.charAt(i)) {
                    return false;
                }
            }
            return true;
        }
    }

    /**
     * A text parted into things, which are taken one behind another; behind the last one stands END.
     * A thing that cannot stand where it is is never taken, so that the first wrong byte is always begin().
     */
    private static final class Text {
        private static final int TOO_MANY_DIGITS = 1000;

        private final Kind[] kinds = new Kind[MOST_TAPE + 1];
        private final int[] begins = new int[MOST_TAPE + 1];
        /** Of a NUMBER what it is, of a word its letters as MARKS (NONE, if they are not such), else NONE. */
        private final int[] values = new int[MOST_TAPE + 1];
        private int size;
        private int at;

        void split(int[] bytes, int length) {
            size = 0;
            at = 0;
            int i = 0;
            while (i < length) {
                int begin = i;
                i++;
                if (isDigit(bytes[begin])) {
                    while (i < length && isDigit(bytes[i])) {
                        i++;
                    }
                    add(Kind.NUMBER, begin, numberIn(bytes, begin, i));
                } else if (isLetter(bytes[begin])) {
                    while (i < length && isLetter(bytes[i])) {
                        i++;
                    }
                    add(kindOf(bytes, begin, i, Kind.WORD), begin, marksIn(bytes, begin, i));
                } else if (bytes[begin] != ' ') {
                    add(kindOf(bytes, begin, i, Kind.OTHER), begin, NONE);
                }
            }
            add(Kind.END, length, NONE);
        }

        private void add(Kind kind, int begin, int value) {
            if (size <= MOST_TAPE) {
                kinds[size] = kind;
                begins[size] = begin;
                values[size] = value;
                size++;
            }
        }

        private static boolean isDigit(int b) {
            return b >= '0' && b <= '9';
        }

        private static boolean isLetter(int b) {
            return b >= 'a' && b <= 'z';
        }

        private static int numberIn(int[] bytes, int begin, int behind) {
            if (behind - begin > 3) {
                return TOO_MANY_DIGITS;
            }
            int number = 0;
            for (int i = begin; i < behind; i++) {
                number = number * 10 + bytes[i] - '0';
            }
            return number;
        }

        private static int marksIn(int[] bytes, int begin, int behind) {
            int marks = 0;
            for (int i = begin; i < behind; i++) {
                int mark = bytes[i] - 'a';
                if (mark >= MARK_KINDS || (marks >> mark & 1) == 1) {
                    return NONE;
                }
                marks |= 1 << mark;
            }
            return marks;
        }

        private static Kind kindOf(int[] bytes, int begin, int behind, Kind otherwise) {
            for (int i = 0; i < KINDS.length; i++) {
                if (KINDS[i].isSpelled(bytes, begin, behind)) {
                    return KINDS[i];
                }
            }
            return otherwise;
        }

        int begin() {
            return begins[at];
        }

        boolean isAt(Kind kind) {
            return kinds[at] == kind;
        }

        boolean take(Kind kind) {
            if (kinds[at] != kind || kind == Kind.END) {
                return false;
            }
            at++;
            return true;
        }

        int takeNumber(int least, int most) {
            int number = values[at];
            if (kinds[at] != Kind.NUMBER || number < least || number > most) {
                return NONE;
            }
            at++;
            return number;
        }

        /** A word that asks of THE LAW whether something is so: the step that it is. */
        int takeAtomWord() {
            int step = kinds[at].fact;
            if (step <= Law.TOLD) {
                return NONE;
            }
            at++;
            return step;
        }

        /** A number, or a word that asks THE LAW for one: the step that it is. */
        int takePart() {
            int step = kinds[at] == Kind.NUMBER ? Law.NUMBER + values[at] : kinds[at].fact;
            if (step == NONE || step > Law.TOLD && step < Law.NUMBER || step >= Law.NUMBER + TOO_MANY_DIGITS) {
                return NONE;
            }
            at++;
            return step;
        }

        int takeMarks(int allowed) {
            int marks = values[at];
            if (kinds[at] == Kind.NUMBER || marks == NONE || (marks & ~allowed) != 0) {
                return NONE;
            }
            at++;
            return marks;
        }
    }

    /** Reads a text LINE by LINE. */
    private abstract static class LineReader {
        /** Whether a text has LINES, at most so many, with ; between them, or none at all. */
        boolean readLines(Text text, int most) {
            if (text.isAt(Kind.END)) {
                return true;
            }
            for (int line = 0; line < most; line++) {
                if (!readLine(text)) {
                    return false;
                }
                if (text.isAt(Kind.END)) {
                    return true;
                }
                if (!text.take(Kind.SEMICOLON)) {
                    return false;
                }
            }
            return false;
        }

        abstract boolean readLine(Text text);
    }

    /** Reads a text of THE FORTRESS into its draft, which is of no use if the text is wrong. */
    private static final class FortressReader extends LineReader {
        private final Fort draft = new Fort();

        boolean readLine(Text text) {
            if (text.isAt(Kind.PRISONER)) {
                return draft.prisoners < MOST_PRISONERS && readPrisoner(text);
            }
            if (text.isAt(Kind.SLEEPER)) {
                return draft.sleepers < MOST_SLEEPERS && readSleeper(text);
            }
            if (text.take(Kind.TOLD)) {
                return readTold(text);
            }
            if (text.take(Kind.STRICT)) {
                draft.strict = text.takeNumber(1, MOST_STRICT);
                return draft.strict != NONE;
            }
            if (text.take(Kind.NIGHT)) {
                draft.night = text.takeNumber(0, 999);
                return draft.night != NONE;
            }
            return false;
        }

        private boolean readPrisoner(Text text) {
            if (!text.take(Kind.PRISONER) || !text.take(Kind.YEARS)) {
                return false;
            }
            int years = text.takeNumber(0, 99);
            if (years == NONE) {
                return false;
            }
            int marks = text.take(Kind.MARKS) ? text.takeMarks(ALL_MARKS) : 0;
            if (marks == NONE) {
                return false;
            }
            draft.years[draft.prisoners] = years;
            draft.marks[draft.prisoners] = marks;
            draft.prisoners++;
            return true;
        }

        private boolean readSleeper(Text text) {
            if (!text.take(Kind.SLEEPER) || !text.take(Kind.SLEEP)) {
                return false;
            }
            int sleep = text.takeNumber(0, 100);
            if (sleep == NONE) {
                return false;
            }
            int cheese = text.take(Kind.CHEESE) ? text.takeNumber(0, MOST_CHEESE) : 0;
            if (cheese == NONE) {
                return false;
            }
            int met = 0;
            if (text.take(Kind.MET)) {
                int prisoner = text.takeNumber(0, draft.prisoners - 1);
                if (prisoner == NONE) {
                    return false;
                }
                met = 1 << prisoner;
            }
            if (text.take(Kind.AWAKE)) {
                draft.awake |= 1 << draft.sleepers;
            }
            draft.sleep[draft.sleepers] = sleep;
            draft.cheese[draft.sleepers] = cheese;
            draft.met[draft.sleepers] = met;
            draft.sleepers++;
            return true;
        }

        private boolean readTold(Text text) {
            int sleeper = text.takeNumber(0, draft.sleepers - 1);
            if (sleeper == NONE) {
                return false;
            }
            int prisoner = text.takeNumber(0, draft.prisoners - 1);
            if (prisoner == NONE) {
                return false;
            }
            int marks = text.takeMarks(draft.marks[prisoner]);
            if (marks == NONE) {
                return false;
            }
            draft.addTold(sleeper, prisoner, marks);
            return true;
        }
    }

    /** THE LAW: of each LINE its kind, its N and its condition, as steps that work on a stack. */
    private static final class Law {
        private static final int PULL_LINE = 0;
        private static final int WAKE_LINE = 1;
        private static final int FADE_LINE = 2;

        /* Steps: first the facts of a SLEEPER and a PRISONER, numbers up to TOLD, then whether or not. */
        private static final int SLEEPER = 0;
        private static final int PRISONER = 1;
        private static final int SLEEP = 2;
        private static final int CHEESE = 3;
        private static final int YEARS = 4;
        private static final int MARKS = 5;
        private static final int TOLD = 6;
        private static final int MET = 7;
        private static final int SHARED = 8;
        private static final int AWAKE = 9;
        private static final int FACTS = 10;
        private static final int ADD = 10;
        private static final int LESS = 11;
        private static final int MORE = 12;
        private static final int AND = 13;
        private static final int OR = 14;
        private static final int NOT = 15;
        /** A number n is the step NUMBER + n. */
        private static final int NUMBER = 16;

        /** Each of the 7 depths leaves at most two values behind, and a comparison three more. */
        private static final int STACK = 32;

        private int lines = NONE;
        private final int[] kinds = new int[LAW_LINES];
        private final int[] amounts = new int[LAW_LINES];
        private final int[] begins = new int[LAW_LINES];
        private final int[] behinds = new int[LAW_LINES];
        private final int[] steps = new int[MOST_TAPE];
        private int size;
        private final int[] stack = new int[STACK];

        void copyFrom(Law other) {
            lines = other.lines;
            size = other.size;
            System.arraycopy(other.kinds, 0, kinds, 0, LAW_LINES);
            System.arraycopy(other.amounts, 0, amounts, 0, LAW_LINES);
            System.arraycopy(other.begins, 0, begins, 0, LAW_LINES);
            System.arraycopy(other.behinds, 0, behinds, 0, LAW_LINES);
            System.arraycopy(other.steps, 0, steps, 0, MOST_TAPE);
        }

        void clear() {
            lines = 0;
            size = 0;
        }

        void addStep(int step) {
            if (size < MOST_TAPE) {
                steps[size] = step;
                size++;
            }
        }

        /** A LINE whose condition is what was added since so many steps. */
        void addLine(int kind, int amount, int begin) {
            if (lines >= 0 && lines < LAW_LINES) {
                kinds[lines] = kind;
                amounts[lines] = amount;
                begins[lines] = begin;
                behinds[lines] = size;
                lines++;
            }
        }

        /** The sum of N of all LINES of a kind that hold. */
        int total(int kind, int[] facts) {
            int sum = 0;
            for (int line = 0; line < lines; line++) {
                if (kinds[line] == kind && holds(line, facts)) {
                    sum += amounts[line];
                }
            }
            return sum;
        }

        private boolean holds(int line, int[] facts) {
            int top = 0;
            for (int i = begins[line]; i < behinds[line]; i++) {
                int step = steps[i];
                if (step < FACTS || step >= NUMBER) {
                    if (top < STACK) {
                        stack[top] = step < FACTS ? facts[step] : step - NUMBER;
                        top++;
                    }
                } else if (step == NOT) {
                    if (top >= 1) {
                        stack[top - 1] = 1 - stack[top - 1];
                    }
                } else if (top >= 2) {
                    top--;
                    stack[top - 1] = joined(step, stack[top - 1], stack[top]);
                }
            }
            return top == 0 || stack[0] != 0;
        }

        private static int joined(int step, int left, int right) {
            switch (step) {
                case ADD:
                    return left + right;
                case LESS:
                    return left < right ? 1 : 0;
                case MORE:
                    return left > right ? 1 : 0;
                case AND:
                    return left & right;
                default:
                    return left | right;
            }
        }
    }

    /** Reads a text of THE LAW into its draft, which is of no use if the text is wrong. */
    private static final class LawReader extends LineReader {
        private final Law draft = new Law();

        boolean readLine(Text text) {
            int kind = takeLineKind(text);
            if (kind == NONE) {
                return false;
            }
            int amount = kind == Law.FADE_LINE ? 1 : text.takeNumber(0, 100);
            if (amount == NONE) {
                return false;
            }
            int begin = draft.size;
            if (text.take(Kind.IF) && !readCondition(text, 0)) {
                return false;
            }
            draft.addLine(kind, amount, begin);
            return true;
        }

        private static int takeLineKind(Text text) {
            if (text.take(Kind.PULL)) {
                return Law.PULL_LINE;
            }
            if (text.take(Kind.WAKE)) {
                return Law.WAKE_LINE;
            }
            return text.take(Kind.FADE) ? Law.FADE_LINE : NONE;
        }

        /** As and binds more than or, the step of an or comes only when all that is bound by and behind it has been read. */
        private boolean readCondition(Text text, int depth) {
            boolean behindOr = false;
            for (int i = 0; i < MOST_TAPE && readAtom(text, depth); i++) {
                for (int j = 0; j < MOST_TAPE && text.take(Kind.AND); j++) {
                    if (!readAtom(text, depth)) {
                        return false;
                    }
                    draft.addStep(Law.AND);
                }
                if (behindOr) {
                    draft.addStep(Law.OR);
                }
                if (!text.take(Kind.OR)) {
                    return true;
                }
                behindOr = true;
            }
            return false;
        }

        private boolean readAtom(Text text, int depth) {
            if (text.isAt(Kind.NOT) || text.isAt(Kind.OPEN)) {
                return depth < DEEPEST && readDeeper(text, depth + 1);
            }
            int fact = text.takeAtomWord();
            if (fact != NONE) {
                draft.addStep(fact);
                return true;
            }
            return readComparison(text);
        }

        private boolean readDeeper(Text text, int depth) {
            if (text.take(Kind.NOT)) {
                if (!readAtom(text, depth)) {
                    return false;
                }
                draft.addStep(Law.NOT);
                return true;
            }
            return text.take(Kind.OPEN) && readCondition(text, depth) && text.take(Kind.CLOSE);
        }

        private boolean readComparison(Text text) {
            if (!readSum(text)) {
                return false;
            }
            boolean less = text.take(Kind.LESS);
            if (!less && !text.take(Kind.MORE)) {
                return false;
            }
            if (!readSum(text)) {
                return false;
            }
            draft.addStep(less ? Law.LESS : Law.MORE);
            return true;
        }

        private boolean readSum(Text text) {
            int part = text.takePart();
            if (part == NONE) {
                return false;
            }
            draft.addStep(part);
            for (int i = 0; i < MOST_TAPE && text.take(Kind.PLUS); i++) {
                part = text.takePart();
                if (part == NONE) {
                    return false;
                }
                draft.addStep(part);
                draft.addStep(Law.ADD);
            }
            return true;
        }
    }

    /** What goes on in the sleepers' heads: PULL, DREAM, GOOD and CHANCE of all, as when last studied, and NIGHTS. */
    private static final class Minds {
        private final int[] pulls = new int[PAIRS];
        private final int[] dream = new int[MOST_SLEEPERS];
        private final int[] chance = new int[MOST_SLEEPERS];
        /** SLEEPERS whose DREAM is GOOD, as bits. */
        private int good;
        private final int[] facts = new int[Law.FACTS];
        /** How many dreams there were since this was last set to 0. */
        private int dreams;

        void study(Fort fort, Law law) {
            good = 0;
            for (int s = 0; s < fort.sleepers; s++) {
                int found = NONE;
                int most = 0;
                for (int p = 0; p < fort.prisoners; p++) {
                    int pulled = pullOf(fort, law, s, p);
                    pulls[s * MOST_PRISONERS + p] = pulled;
                    if (pulled > most) {
                        found = p;
                        most = pulled;
                    }
                }
                dream[s] = found;
                if (found != NONE && !fort.hasMet(s, found)
                        && Integer.bitCount(fort.toldOf(s, found)) >= fort.strict) {
                    good |= 1 << s;
                }
                chance[s] = chanceOf(fort, law, s);
            }
        }

        boolean isGood(int s) {
            return (good >> s & 1) == 1;
        }

        int pullOf(Fort fort, Law law, int s, int p) {
            if (fort.isOut(p) || fort.toldOf(s, p) == 0) {
                return 0;
            }
            gather(fort, s, p);
            return 2 * facts[Law.TOLD] + law.total(Law.PULL_LINE, facts);
        }

        int chanceOf(Fort fort, Law law, int s) {
            if (fort.isAwake(s)) {
                return 0;
            }
            gatherSleeper(fort, s);
            int wakes = law.total(Law.WAKE_LINE, facts);
            return Math.max(0, Math.min(100, fort.sleep[s] + 5 * fort.cheese[s] - wakes));
        }

        private void gatherSleeper(Fort fort, int s) {
            for (int i = 0; i < Law.FACTS; i++) {
                facts[i] = 0;
            }
            facts[Law.SLEEPER] = s;
            facts[Law.SLEEP] = fort.sleep[s];
            facts[Law.CHEESE] = fort.cheese[s];
            facts[Law.AWAKE] = fort.isAwake(s) ? 1 : 0;
        }

        private void gather(Fort fort, int s, int p) {
            gatherSleeper(fort, s);
            facts[Law.PRISONER] = p;
            facts[Law.YEARS] = fort.years[p];
            facts[Law.MARKS] = Integer.bitCount(fort.marks[p]);
            facts[Law.TOLD] = Integer.bitCount(fort.toldOf(s, p));
            facts[Law.MET] = fort.hasMet(s, p) ? 1 : 0;
            facts[Law.SHARED] = fort.isShared(s, p) ? 1 : 0;
        }

        /** A NIGHT more. */
        void passNight(Fort fort, Law law) {
            study(fort, law);
            int freed = 0;
            for (int s = 0; s < fort.sleepers; s++) {
                boolean dreaming = fort.draw() % 100 < chance[s];
                if (dreaming && dream[s] != NONE) {
                    dreams++;
                    fort.addLogRow(s, dream[s], isGood(s) ? 1 : 0);
                    freed |= isGood(s) ? 1 << dream[s] : 0;
                }
            }
            fort.out |= freed;
            closeNight(fort, law);
        }

        /** What comes behind the dreams: fading, and no enemy's doing lasts. */
        void closeNight(Fort fort, Law law) {
            for (int s = 0; s < fort.sleepers; s++) {
                for (int p = 0; p < fort.prisoners; p++) {
                    if (fort.toldOf(s, p) != 0 && fades(fort, law, s, p)) {
                        fort.fadeLeastMark(s, p);
                    }
                }
            }
            fort.awake = 0;
            fort.night = Math.min(LAST_NIGHT, fort.night + 1);
        }

        private boolean fades(Fort fort, Law law, int s, int p) {
            gather(fort, s, p);
            return law.total(Law.FADE_LINE, facts) > 0;
        }

        /**
         * ODDS, as if one SLEEPER (or NONE) were AWAKE besides: its CHANCE is 0 then, whatever it dreams of,
         * and being AWAKE changes nothing for the others.
         */
        int oddsOf(Fort fort, int p, int awake) {
            int left = CERTAIN;
            for (int s = 0; s < fort.sleepers; s++) {
                if (s != awake && dream[s] == p && isGood(s)) {
                    left = left * (100 - chance[s]) / 100;
                }
            }
            return CERTAIN - left;
        }

        /**
         * NEED, by PULLS as studied. Only his own PULL changes when more is TOLD of him, and it goes by how many
         * MARKS were TOLD, not by which: so the least MARKS that are left are taken, one by one.
         */
        int needOf(Fort fort, Law law, int s, int p) {
            if (fort.isOut(p) || fort.hasMet(s, p)) {
                return NONE;
            }
            int had = fort.toldOf(s, p);
            int more = 0;
            gather(fort, s, p);
            for (int i = 0; i <= MARK_KINDS; i++) {
                facts[Law.TOLD] = Integer.bitCount(had | more);
                if (facts[Law.TOLD] >= fort.strict
                        && isStrongest(fort, s, p, 2 * facts[Law.TOLD] + law.total(Law.PULL_LINE, facts))) {
                    return more;
                }
                int left = fort.marks[p] & ~had & ~more;
                if (left == 0) {
                    return NONE;
                }
                more |= left & -left;
            }
            return NONE;
        }

        private boolean isStrongest(Fort fort, int s, int p, int pulled) {
            for (int other = 0; other < fort.prisoners; other++) {
                int rival = pulls[s * MOST_PRISONERS + other];
                if (other < p && rival >= pulled || other > p && rival > pulled) {
                    return false;
                }
            }
            return pulled > 0;
        }
    }

    /** NEEDS, and what is planned by them: COVER, OUTS; and BEDS. */
    private static final class Plans {
        private final int[] needs = new int[PAIRS];
        private int mostYears;
        private final int[] putTo = new int[MOST_PRISONERS];
        private final int[] trying = new int[MOST_PRISONERS];
        private final int[] bedsOf = new int[MOST_PRISONERS];

        void reckonNeeds(Fort fort, Law law, Minds minds) {
            minds.study(fort, law);
            for (int s = 0; s < fort.sleepers; s++) {
                for (int p = 0; p < fort.prisoners; p++) {
                    needs[s * MOST_PRISONERS + p] = minds.needOf(fort, law, s, p);
                }
            }
        }

        boolean isNeededByAny(Fort fort, int p) {
            for (int s = 0; s < fort.sleepers; s++) {
                if (needs[s * MOST_PRISONERS + p] != NONE) {
                    return true;
                }
            }
            return false;
        }

        /** MARKS that a PRISONER's NEEDS of these SLEEPERS (bits) have together; NONE, if one has no NEED. */
        int costOf(int p, int chosen) {
            int cost = 0;
            for (int s = 0; s < MOST_SLEEPERS; s++) {
                if ((chosen >> s & 1) == 1) {
                    int need = needs[s * MOST_PRISONERS + p];
                    if (need == NONE) {
                        return NONE;
                    }
                    cost += Integer.bitCount(need);
                }
            }
            return cost;
        }

        /** WHOM: as all sets are tried by their numbers, the first of the least cost is the one that is due. */
        int cheapest(Fort fort, int p, int k) {
            int found = NONE;
            int least = 0;
            for (int chosen = 1; chosen < 1 << fort.sleepers; chosen++) {
                int cost = Integer.bitCount(chosen) == k ? costOf(p, chosen) : NONE;
                if (cost != NONE && (found == NONE || cost < least)) {
                    found = chosen;
                    least = cost;
                }
            }
            return found;
        }

        void putPrisoners(Fort fort, int b) {
            mostYears = NONE;
            place(fort, 0, 0, b, 0);
        }

        /** Tries all ways from one PRISONER on, in the order that the document asks for: a later one must be better. */
        private void place(Fort fort, int p, int taken, int left, int years) {
            if (p >= fort.prisoners || p >= MOST_PRISONERS) {
                if (years > mostYears) {
                    mostYears = years;
                    System.arraycopy(trying, 0, putTo, 0, MOST_PRISONERS);
                }
                return;
            }
            if (years + yearsFrom(fort, p) <= mostYears) {
                return;
            }
            trying[p] = NONE;
            place(fort, p + 1, taken, left, years);
            for (int s = 0; s < fort.sleepers; s++) {
                int need = needs[s * MOST_PRISONERS + p];
                if (need != NONE && (taken >> s & 1) == 0 && Integer.bitCount(need) <= left) {
                    trying[p] = s;
                    place(fort, p + 1, taken | 1 << s, left - Integer.bitCount(need), years + fort.years[p]);
                }
            }
        }

        private static int yearsFrom(Fort fort, int first) {
            int sum = 0;
            for (int p = first; p < fort.prisoners; p++) {
                sum += fort.years[p];
            }
            return sum;
        }

        void shareBeds(Fort fort, int n) {
            for (int p = 0; p < MOST_PRISONERS; p++) {
                bedsOf[p] = 0;
            }
            for (int i = 0; i < n; i++) {
                int p = firstInLine(fort);
                if (p != NONE) {
                    bedsOf[p]++;
                }
            }
        }

        private int firstInLine(Fort fort) {
            int found = NONE;
            int most = -1;
            for (int p = 0; p < fort.prisoners; p++) {
                int claim = fort.years[p] / (bedsOf[p] + 1);
                if (!fort.isOut(p) && claim > most) {
                    found = p;
                    most = claim;
                }
            }
            return found;
        }
    }

    /** COUPLES. */
    private static final class Couples {
        private int most;
        private final int[] with = new int[MOST_SLEEPERS];
        private final int[] trying = new int[MOST_SLEEPERS];
        private final int[] heard = new int[MOST_SLEEPERS];

        void putTogether(Fort fort) {
            most = NONE;
            for (int s = 0; s < fort.sleepers; s++) {
                heard[s] = fort.heardOf(s);
                trying[s] = NONE;
            }
            join(fort.sleepers, 0, 0);
        }

        /** Tries all ways from one SLEEPER on, in the order that the document asks for: a later one must be better. */
        private void join(int sleepers, int s, int sum) {
            if (s >= sleepers || s >= MOST_SLEEPERS) {
                if (sum > most) {
                    most = sum;
                    System.arraycopy(trying, 0, with, 0, MOST_SLEEPERS);
                }
                return;
            }
            join(sleepers, s + 1, sum);
            if (trying[s] != NONE) {
                return;
            }
            for (int other = s + 1; other < sleepers; other++) {
                if (trying[other] == NONE) {
                    trying[s] = other;
                    trying[other] = s;
                    join(sleepers, s + 1, sum + Integer.bitCount(heard[s] & heard[other]));
                    trying[s] = NONE;
                    trying[other] = NONE;
                }
            }
        }
    }

    /** RUMOUR: which MARK of whom all were TOLD more, by who was dreamt of. */
    private static final class Rumours {
        private static final int PARTS = MOST_PRISONERS + 1;

        private int fitting;
        private int first;
        /** Of each SLEEPER by how many of the pairs that fit it has which DREAM (the first: none). */
        private final int[] parts = new int[MOST_SLEEPERS * PARTS];

        void hear(Fort fort, Fort scratch, Law law, Minds minds, int[] rows, int length) {
            fitting = 0;
            first = NONE;
            for (int i = 0; i < MOST_SLEEPERS * PARTS; i++) {
                parts[i] = 0;
            }
            scratch.copyFrom(fort);
            for (int p = 0; p < fort.prisoners; p++) {
                for (int m = 0; m < MARK_KINDS; m++) {
                    if ((fort.marks[p] >> m & 1) == 1) {
                        tellAll(fort, scratch, p, 1 << m);
                        minds.study(scratch, law);
                        if (isAsDreamt(minds, rows, length)) {
                            keep(p * MARK_KINDS + m, fort.sleepers, minds);
                        }
                    }
                }
                tellAll(fort, scratch, p, 0);
            }
        }

        /** In the scratch all were TOLD of one PRISONER what they were in the fort, and these MARKS. */
        private static void tellAll(Fort fort, Fort scratch, int p, int marks) {
            for (int s = 0; s < fort.sleepers; s++) {
                scratch.toldMarks[s * MOST_PRISONERS + p] = fort.toldOf(s, p) | marks;
            }
        }

        private static boolean isAsDreamt(Minds minds, int[] rows, int length) {
            for (int i = 0; i + 1 < length; i += 2) {
                int dreamt = rows[i + 1] == NOBODY ? NONE : rows[i + 1];
                if (minds.dream[rows[i]] != dreamt) {
                    return false;
                }
            }
            return true;
        }

        private void keep(int pair, int sleepers, Minds minds) {
            fitting++;
            first = first == NONE ? pair : first;
            for (int s = 0; s < sleepers; s++) {
                parts[s * PARTS + minds.dream[s] + 1]++;
            }
        }

        /** NEXT. */
        int bestSleeper(Fort fort) {
            if (fitting < 2) {
                return NONE;
            }
            int found = NONE;
            int least = 0;
            for (int s = 0; s < fort.sleepers; s++) {
                int greatest = greatestPart(s);
                if (found == NONE || greatest < least) {
                    found = s;
                    least = greatest;
                }
            }
            return found;
        }

        private int greatestPart(int s) {
            int greatest = 0;
            for (int i = 0; i < PARTS; i++) {
                greatest = Math.max(greatest, parts[s * PARTS + i]);
            }
            return greatest;
        }
    }
}
