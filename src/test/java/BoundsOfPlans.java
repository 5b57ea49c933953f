import java.util.Arrays;

/** The Terms of odds, needs, plans, witnesses and rumours, and promises 19 to 29 and 33 to 35, at their boundaries. */
final class BoundsOfPlans {
    private static final int LEAST = Integer.MIN_VALUE;
    private static final int MOST = Integer.MAX_VALUE;

    private final Bounds b;

    BoundsOfPlans(Bounds bounds) {
        b = bounds;
    }

    void run() {
        odds();
        within();
        soon();
        soonRefused();
        needs();
        noNeeds();
        need();
        covers();
        coverAndWhom();
        outs();
        outsInOrder();
        outsAsked();
        swornRows();
        likely();
        ask();
        swornTapes();
        rumours();
        next();
        rumourTapes();
        never();
        beds();
        bedsAsked();
        couples();
        couplesAsked();
    }

    /** A house of one prisoner of marks ab, and sleepers of these chances who were told both. */
    private static DreamFort sleeping(int... chances) {
        StringBuilder house = new StringBuilder("prisoner years 1 marks ab");
        for (int s = 0; s < chances.length; s++) {
            house.append(";sleeper sleep ").append(chances[s]).append(";told ").append(s).append(" 0 ab");
        }
        return Check.made(house.toString());
    }

    // ---- odds

    private void odds() {
        b.says(Bounds.TERMS, "ODDS of a PRISONER: that some GOOD DREAM of him is dreamt in one NIGHT, all as it is: 10000 less what is left of 10000,"
                + " if it is, for each SLEEPER whose GOOD DREAM he is, by numbers, times (100 less its CHANCE) by 100, rounded down each time.");
        b.is("without sleepers", sleeping().prisoner(0, 3), 0);
        b.is("chance 0", sleeping(0).prisoner(0, 3), 0);
        b.is("chance 1", sleeping(1).prisoner(0, 3), 100);
        b.is("chance 99", sleeping(99).prisoner(0, 3), 9900);
        b.is("chance 100", sleeping(100).prisoner(0, 3), 10000);
        b.is("two of 99", sleeping(99, 99).prisoner(0, 3), 9999);
        b.is("three of 99: nothing is left", sleeping(99, 99, 99).prisoner(0, 3), 10000);
        // 10000, 1600, 816, 595 (595.68), 517 (517.65); the other way round 518 would be left
        b.is("by numbers", sleeping(84, 49, 27, 13).prisoner(0, 3), 9483);
        b.is("by numbers, the other way round", sleeping(13, 27, 49, 84).prisoner(0, 3), 9482);
        DreamFort x = sleeping(50, 50, 50);
        x.wake(0);
        b.is("one awake", x.prisoner(0, 3), 7500);
        x.meet(1, 0);
        b.is("one that met him", x.prisoner(0, 3), 5000);
        x.strict(3);
        b.is("told too little", x.prisoner(0, 3), 0);
        DreamFort out = sleeping(100);
        out.nights(1);
        b.is("of one out", out.prisoner(0, 3), 0);
    }

    private void within() {
        b.says(Bounds.TERMS, "IN of a PRISONER and N NIGHTS (0 to 60): 10000 less what is left of 10000, if it is, for each NIGHT, times"
                + " (10000 less ODDS) by 10000, rounded down each time.");
        DreamFort x = sleeping(33);
        int[] left = {10000, 6700, 4489, 3007, 2014, 1349};
        for (int n = 0; n < left.length; n++) {
            b.is("in " + n, x.within(0, n), 10000 - left[n]);
        }
        b.is("in 21", x.within(0, 21), 9999);
        b.is("in 22", x.within(0, 22), 10000);
        b.is("in 60", x.within(0, 60), 10000);
        b.says(19, "IN.");
        b.is("in 0, certain", sleeping(100).within(0, 0), 0);
        b.is("in 1, certain", sleeping(100).within(0, 1), 10000);
        b.is("in 60, never", sleeping(0).within(0, 60), 0);
        b.says(19, "IllegalArgumentException: N is none.");
        b.refusesEach(x, Bounds.NO_NUMBER, "within", n -> () -> x.within(0, n), -1, 61, LEAST, MOST);
        b.refusesEach(x, Bounds.NO_SUCH, "within of", n -> () -> x.within(n, 0), -1, 1, 6, LEAST, MOST);
        b.refuses(x, Bounds.NO_SUCH, "both, what is told first", () -> x.within(1, 61));
    }

    private void soon() {
        b.says(Bounds.TERMS, "SOON of a PRISONER and odds (0 to 10000): the first N (0 to 60) by which IN, so, is that at least; none.");
        DreamFort x = sleeping(33);
        int[][] due = {{0, 0}, {1, 1}, {3300, 1}, {3301, 2}, {5511, 2}, {5512, 3}, {9999, 21}, {10000, 22}};
        for (int[] row : due) {
            b.is("soon " + row[0], x.soon(0, row[0]), row[1]);
        }
        b.is("certain", sleeping(100).soon(0, 10000), 1);
        b.is("never", sleeping(0).soon(0, 1), -1);
        b.is("0, never", sleeping(0).soon(0, 0), 0);
        int left = 10000;
        for (int i = 0; i < 60; i++) {
            left = left * 9900 / 10000;
        }
        b.is("in 60 nights", sleeping(1).soon(0, 10000 - left), 60);
        b.is("in more", sleeping(1).soon(0, 10000 - left + 1), -1);
    }

    private void soonRefused() {
        b.says(20, "SOON; NONE.");
        DreamFort x = sleeping(50);
        b.is("half", x.soon(0, 5000), 1);
        b.is("of nobody's dream", Check.made("prisoner years 1").soon(0, 1), -1);
        b.says(20, "IllegalArgumentException: the odds are none.");
        b.refusesEach(x, Bounds.NO_NUMBER, "soon", n -> () -> x.soon(0, n), -1, 10001, LEAST, MOST);
        b.refusesEach(x, Bounds.NO_SUCH, "soon of", n -> () -> x.soon(n, 0), -1, 1, 6, LEAST, MOST);
        b.refuses(x, Bounds.NO_SUCH, "both, what is told first", () -> x.soon(-1, -1));
    }

    // ---- needs

    private void needs() {
        b.says(Bounds.TERMS, "NEED of a SLEEPER and a PRISONER: the fewest MARKS of his, not TOLD it yet, to be TOLD it more so that he is its"
                + " GOOD DREAM (by all else as it is): of several the least as bits (0, if he is so now);");
        DreamFort x = Check.made("prisoner years 1 marks bcdef;sleeper sleep 0;told 0 0 c");
        int[] due = {0, 0, 2, 2 + 8, 2 + 8 + 16, 2 + 8 + 16 + 32, -1};
        for (int strict = 1; strict <= 6; strict++) {
            x.strict(strict);
            b.is("strict " + strict, x.need(0, 0), due[strict]);
        }
        DreamFort six = Check.made("prisoner years 1 marks abcdef;sleeper sleep 0;strict 6");
        b.is("all six", six.need(0, 0), 63);
        six.tell(0, 0, 0);
        b.is("the other five", six.need(0, 0), 62);
        DreamFort rivals = Check.made("prisoner years 1 marks abc;prisoner years 1 marks abc;sleeper sleep 0;strict 1;told 0 0 c");
        b.is("he is so now", rivals.need(0, 0), 0);
        b.is("more than an earlier one of like pull", rivals.need(0, 1), 3);
        rivals.forget(0);
        rivals.tell(0, 1, 2);
        b.is("as much as a later one", rivals.need(0, 0), 1);
        rivals.wake(0);
        b.is("of one awake, too", rivals.need(0, 0), 1);
        DreamFort law = Check.made("prisoner years 1 marks abcd;prisoner years 1 marks ab;sleeper sleep 0;sleeper sleep 0;strict 1;told 0 1 a;"
                + "told 1 1 a", "pull 5 if prisoner > 0;pull 9 if prisoner < 1 and told > 2 and told < 4;pull 9 if prisoner < 1 and shared");
        b.is("by a law that asks for three", law.need(0, 0), 7);
        law.tell(1, 0, 3);
        b.is("shared by all else as it is", law.need(0, 0), 1);
        DreamFort less = Check.made("prisoner years 1 marks abc;sleeper sleep 0;told 0 0 b", "pull 50 if told < 2");
        b.is("though he pulls less then than he does now", less.need(0, 0), 1);
    }

    private void noNeeds() {
        b.says(Bounds.TERMS, "none (also if it MET him, or he is OUT).");
        DreamFort x = Check.made("prisoner years 1 marks ab;prisoner years 1 marks a;prisoner years 1;sleeper sleep 100;sleeper sleep 0;"
                + "told 0 0 ab");
        b.is("one told two", x.need(0, 0), 0);
        b.is("one with too few marks", x.need(1, 1), -1);
        b.is("one without marks", x.need(1, 2), -1);
        x.strict(1);
        b.is("one without marks, however little strict", x.need(1, 2), -1);
        b.is("one mark will do", x.need(1, 1), 1);
        b.is("one against whom another pulls more", x.need(0, 1), -1);
        x.meet(1, 0);
        b.is("it met him", x.need(1, 0), -1);
        x.nights(1);
        b.is("he is out", x.need(0, 0), -1);
        b.is("now that one is out", x.need(0, 1), 1);
    }

    private void need() {
        b.says(21, "NEED, as bits; NONE.");
        DreamFort x = Check.made(BoundsOfTexts.times(6, "prisoner years 1 marks ef") + ";" + BoundsOfTexts.times(6, "sleeper sleep 0"));
        b.is("the sixth of the sixth", x.need(5, 5), 48);
        b.refusesEach(x, Bounds.NO_SUCH, "the sleeper", n -> () -> x.need(n, 0), -1, 6, LEAST, MOST);
        b.refusesEach(x, Bounds.NO_SUCH, "the prisoner", n -> () -> x.need(0, n), -1, 6, LEAST, MOST);
        x.meet(5, 5);
        b.is("none", x.need(5, 5), -1);
    }

    private void covers() {
        b.says(Bounds.TERMS, "COVER of a PRISONER and K (1 to 6): the fewest MARKS TOLD more, all together, so that he is the GOOD DREAM of K SLEEPERS,"
                + " each reckoned by its NEED alone: how many;");
        // needs: 2, 1, 0, 2, none (met), 1
        DreamFort x = Check.made("prisoner years 1 marks abc;sleeper sleep 0;sleeper sleep 0;sleeper sleep 0;sleeper sleep 0;"
                + "sleeper sleep 0 met 0;sleeper sleep 0;told 1 0 a;told 2 0 ab;told 5 0 c");
        int[] cover = {0, 1, 2, 4, 6, -1};
        int[] whom = {4, 6, 38, 39, 47, -1};
        for (int k = 1; k <= 6; k++) {
            b.is("cover " + k, x.cover(0, k), cover[k - 1]);
        }
        b.says(Bounds.TERMS, "WHOM: these SLEEPERS, as bits (of the fewest MARKS; of several the least number); none.");
        for (int k = 1; k <= 6; k++) {
            b.is("whom " + k, x.whom(0, k), whom[k - 1]);
        }
        DreamFort alike = Check.made("prisoner years 1 marks abcdef;strict 6;" + BoundsOfTexts.times(6, "sleeper sleep 0"));
        for (int k = 1; k <= 6; k++) {
            b.is("all alike, cover " + k, alike.cover(0, k), 6 * k);
            b.is("all alike, whom " + k, alike.whom(0, k), (1 << k) - 1);
        }
        DreamFort reckoned = Check.made("prisoner years 1 marks abc;prisoner years 1 marks abc;sleeper sleep 0;sleeper sleep 0;told 0 1 abc;"
                + "told 1 1 abc", "pull 9 if shared and prisoner < 1;pull 1 if prisoner > 0");
        b.is("each alone: what is told one does not help the other", reckoned.cover(0, 1), -1);
    }

    private void coverAndWhom() {
        b.says(23, "WHOM, as bits; NONE.");
        DreamFort sixth = Check.made(BoundsOfTexts.times(6, "prisoner years 1 marks ab") + ";" + BoundsOfTexts.times(6, "sleeper sleep 0"));
        b.is("of the sixth, ahead of any other question", sixth.whom(5, 6), 63);
        sixth.meet(0, 5);
        sixth.tell(4, 5, 0);
        b.is("of the sixth, one told of him", sixth.whom(5, 1), 16);
        b.is("of the sixth, two", sixth.whom(5, 2), 18);
        b.is("of the sixth, six", sixth.whom(5, 6), -1);
        b.is("the marks of five", sixth.cover(5, 5), 9);
        DreamFort x = Check.made("prisoner years 1 marks ab;sleeper sleep 0;sleeper sleep 0");
        b.says(22, "COVER; NONE.");
        b.is("1 of 2", x.cover(0, 1), 2);
        b.is("2 of 2", x.cover(0, 2), 4);
        b.is("3 of 2", x.cover(0, 3), -1);
        b.is("6 of 2", x.cover(0, 6), -1);
        b.is("without sleepers", Check.made("prisoner years 1 marks ab").cover(0, 1), -1);
        b.says(22, "IllegalArgumentException: K is none.");
        b.refusesEach(x, Bounds.NO_NUMBER, "cover", n -> () -> x.cover(0, n), 0, 7, -1, LEAST, MOST);
        b.refusesEach(x, Bounds.NO_SUCH, "cover of", n -> () -> x.cover(n, 1), -1, 1, 6, LEAST, MOST);
        b.refuses(x, Bounds.NO_SUCH, "both, what is told first", () -> x.cover(1, 0));
        b.says(23, "WHOM, as bits; NONE.");
        b.is("1 of 2", x.whom(0, 1), 1);
        b.is("2 of 2", x.whom(0, 2), 3);
        b.is("3 of 2", x.whom(0, 3), -1);
        b.is("6 of 2", x.whom(0, 6), -1);
        b.says(23, "IllegalArgumentException: K is none.");
        b.refusesEach(x, Bounds.NO_NUMBER, "whom", n -> () -> x.whom(0, n), 0, 7, -1, LEAST, MOST);
        b.refusesEach(x, Bounds.NO_SUCH, "whom of", n -> () -> x.whom(n, 1), -1, 1, 6, LEAST, MOST);
        b.refuses(x, Bounds.NO_SUCH, "both, what is told first", () -> x.whom(1, 0));
    }

    // ---- outs

    /** Six prisoners of these years, each of whom needs six marks of any of six sleepers. */
    private static DreamFort dearHouse(int... years) {
        StringBuilder house = new StringBuilder("strict 6");
        for (int one : years) {
            house.append(";prisoner years ").append(one).append(" marks abcdef");
        }
        return Check.made(house + ";" + BoundsOfTexts.times(6, "sleeper sleep 0"));
    }

    private void outs() {
        b.says(Bounds.TERMS, "OUTS of B (0 to 36): PRISONERS not OUT put to SLEEPERS, each to one of its own (or to none), by their NEEDS, at most B"
                + " MARKS TOLD together, so that YEARS of those put are together the most: how many YEARS;");
        DreamFort x = dearHouse(10, 20, 30, 40, 50, 60);
        int[][] due = {{0, 0}, {5, 0}, {6, 60}, {11, 60}, {12, 110}, {18, 150}, {24, 180}, {30, 200}, {35, 200}, {36, 210}};
        for (int[] row : due) {
            b.is("outs of " + row[0], x.outs(-1, row[0]), row[1]);
        }
        DreamFort free = Check.made("prisoner years 5 marks ab;prisoner years 99 marks ab;sleeper sleep 0;told 0 0 ab");
        b.is("one that needs nothing", free.outs(-1, 0), 5);
        b.is("two marks are too few against him", free.outs(-1, 36), 5);
        DreamFort one = Check.made("prisoner years 5 marks ab;prisoner years 9 marks ab;sleeper sleep 0");
        b.is("one sleeper has one", one.outs(-1, 36), 9);
        b.is("one mark is too few", one.outs(-1, 1), 0);
        b.is("two are not", one.outs(-1, 2), 9);
        DreamFort out = sleeping(100, 100);
        out.nights(1);
        b.is("nobody is left", out.outs(-1, 36), 0);
        b.is("one out is with nobody", out.outs(0, 36), -1);
    }

    private void outsAre(String what, DreamFort x, int marks, int... due) {
        int[] got = new int[due.length];
        for (int p = 0; p < due.length; p++) {
            got[p] = x.outs(p, marks);
        }
        b.same(what + " of " + marks, Arrays.toString(got), Arrays.toString(due));
    }

    private void outsInOrder() {
        b.says(Bounds.TERMS, "with which SLEEPER a PRISONER is in the first such way (PRISONER by PRISONER, none being the least, then the SLEEPERS);"
                + " none.");
        DreamFort x = dearHouse(5, 5, 5, 5, 5, 5);
        outsAre("years alike", x, 0, -1, -1, -1, -1, -1, -1);
        outsAre("years alike", x, 6, -1, -1, -1, -1, -1, 0);
        outsAre("years alike", x, 35, -1, 0, 1, 2, 3, 4);
        outsAre("years alike", x, 36, 0, 1, 2, 3, 4, 5);
        outsAre("no years", dearHouse(0, 0, 0, 0, 0, 0), 36, -1, -1, -1, -1, -1, -1);
        outsAre("the most years", dearHouse(9, 1, 8, 2, 7, 3), 18, 0, -1, 1, -1, 2, -1);
        // the first could be with either sleeper, the second with the first sleeper alone
        DreamFort y = Check.made("prisoner years 5 marks ab;prisoner years 5 marks ab;sleeper sleep 0;sleeper sleep 0 met 1");
        outsAre("the first makes room", y, 36, 1, 0);
        outsAre("one of two", y, 2, -1, 0);
    }

    private void outsAsked() {
        b.says(24, "OUTS: how many YEARS (prisoner NONE), or with which SLEEPER one is; NONE.");
        DreamFort x = Check.made("prisoner years 5 marks ab;prisoner years 0 marks ab;sleeper sleep 0");
        b.is("years", x.outs(-1, 36), 5);
        b.is("with whom", x.outs(0, 36), 0);
        b.is("with nobody", x.outs(1, 36), -1);
        b.is("of nobody", new DreamFort().outs(-1, 36), 0);
        b.refusesEach(x, Bounds.NO_SUCH, "outs", n -> () -> x.outs(n, 0), -2, 2, 6, LEAST, MOST);
        b.says(24, "IllegalArgumentException: B is none.");
        b.refusesEach(x, Bounds.NO_NUMBER, "outs, years", n -> () -> x.outs(-1, n), -1, 37, LEAST, MOST);
        b.refusesEach(x, Bounds.NO_NUMBER, "outs, with whom", n -> () -> x.outs(0, n), -1, 37, LEAST, MOST);
        b.refuses(x, Bounds.NO_SUCH, "both, what is told first", () -> x.outs(2, 37));
    }

    // ---- witnesses

    private int sworn(DreamFort x, int... rows) {
        Check.putRows(x, rows);
        return x.sworn();
    }

    private int likely(DreamFort x, int... rows) {
        Check.putRows(x, rows);
        return x.likely();
    }

    private int ask(DreamFort x, int... rows) {
        Check.putRows(x, rows);
        return x.ask();
    }

    private void swornRows() {
        b.says(Bounds.TERMS, "SWORN: told are rows: a MARK and whether he had it (1) or not (0); at most one row may be wrong: PRISONERS (OUT or not)"
                + " that fit, as bits;");
        DreamFort x = Check.made("prisoner years 1 marks abc;prisoner years 1 marks ab;prisoner years 1 marks a;prisoner years 1;"
                + "prisoner years 1 marks f;prisoner years 1 marks abcdef;sleeper sleep 100;told 0 0 ab");
        b.is("no row", sworn(x), 63);
        b.is("one row may be wrong", sworn(x, 0, 1), 63);
        b.is("one of two", sworn(x, 0, 1, 1, 1), 1 + 2 + 4 + 32);
        b.is("one of three", sworn(x, 0, 1, 1, 1, 2, 1), 1 + 2 + 32);
        b.is("not had", sworn(x, 0, 0, 1, 0), 4 + 8 + 16);
        b.is("mark 5", sworn(x, 5, 1, 5, 1), 16 + 32);
        b.is("the same row twice counts twice", sworn(x, 2, 1, 2, 1), 1 + 32);
        b.is("one and its contrary: one is wrong for all", sworn(x, 3, 1, 3, 0), 63);
        b.is("each twice: nobody fits", sworn(x, 3, 1, 3, 0, 3, 1, 3, 0), 0);
        x.nights(1);
        b.is("one is out", x.out(), 1);
        b.is("out or not", sworn(x, 0, 1, 1, 1, 2, 1), 1 + 2 + 32);
        b.is("nobody there", sworn(new DreamFort()), 0);
    }

    private void likely() {
        b.says(Bounds.TERMS, "LIKELY: of these the one of the fewest wrong rows (of several the least; none);");
        DreamFort x = Check.made("prisoner years 1 marks ab;prisoner years 1 marks abc;prisoner years 1 marks abc");
        b.is("no row: the least", likely(x), 0);
        b.is("the one without a wrong row", likely(x, 0, 1, 2, 1), 1);
        b.is("one wrong row each: the least", likely(x, 5, 1), 0);
        b.is("none fits", likely(x, 4, 1, 5, 1), -1);
        b.is("the only one", likely(x, 2, 1, 2, 1), 1);
        b.is("nobody there", likely(new DreamFort()), -1);
    }

    private void ask() {
        b.says(Bounds.TERMS, "ASK: the MARK by which those that fit are parted so that the greater part is the least (of several the least; none with"
                + " fewer than two).");
        DreamFort x = Check.made("prisoner years 1 marks abf;prisoner years 1 marks abf;prisoner years 1 marks a;prisoner years 1 marks ae");
        b.is("two and two by b, also by f", ask(x), 1);
        b.is("three fit: one and two", ask(x, 1, 1, 1, 1), 0);
        b.is("two that are alike: the least mark", ask(x, 1, 1, 5, 1, 4, 0), 0);
        b.is("two parted by e", ask(x, 1, 0, 5, 0), 4);
        b.is("one fits", ask(x, 4, 1, 4, 1), -1);
        b.is("none fits", ask(x, 0, 0, 0, 0), -1);
        b.is("one there", ask(Check.made("prisoner years 1 marks ab")), -1);
        b.is("nobody there", ask(new DreamFort()), -1);
        DreamFort last = Check.made("prisoner years 1 marks ab;prisoner years 1 marks abf");
        b.is("parted by f alone", ask(last), 5);
    }

    private static int[] rowsOf(int bytes) {
        return new int[bytes];
    }

    private void swornTapes() {
        DreamFort x = Check.made("prisoner years 1 marks b;prisoner years 1 marks f");
        int[][] wrong = {{0}, {0, 1, 2}, {6, 0}, {6, 1}, {255, 0}, {0, 2}, {0, 255}, {5, 1, 6, 1}, {5, 1, 5, 2}, rowsOf(39), rowsOf(41), rowsOf(42),
            rowsOf(400)};
        b.says(25, "Uses the TAPE up: SWORN (of each two bytes: the MARK, 1 or 0; at most 40 bytes), as bits.");
        b.is("40 bytes", sworn(x, rowsOf(40)), 3);
        b.is("the tape", Bounds.tapeOf(x), 0);
        b.is("marks 0 and 5, had and not", sworn(x, 5, 1, 0, 0), 3);
        b.is("the second by both", sworn(x, 5, 1, 5, 1), 2);
        b.says(25, "IllegalArgumentException: the TAPE is not that (none may be told).");
        b.is("none", sworn(x), 3);
        for (int[] rows : wrong) {
            Check.putRows(x, rows);
            b.refusesTape(x, Bounds.NO_NUMBER, "sworn " + Arrays.toString(rows), x::sworn);
        }
        b.says(26, "Uses the TAPE up: LIKELY (the TAPE likewise); NONE.");
        b.is("40 bytes", likely(x, rowsOf(40)), 0);
        b.is("the tape", Bounds.tapeOf(x), 0);
        b.is("none", likely(x, 3, 1, 3, 1), -1);
        b.says(26, "IllegalArgumentException: the TAPE is not that.");
        for (int[] rows : wrong) {
            Check.putRows(x, rows);
            b.refusesTape(x, Bounds.NO_NUMBER, "likely " + Arrays.toString(rows), x::likely);
        }
        b.says(27, "Uses the TAPE up: ASK (the TAPE likewise); NONE.");
        b.is("40 bytes", ask(x, rowsOf(40)), 1);
        b.is("the tape", Bounds.tapeOf(x), 0);
        b.is("none", ask(x, 3, 1, 3, 1), -1);
        b.says(27, "IllegalArgumentException: the TAPE is not that.");
        for (int[] rows : wrong) {
            Check.putRows(x, rows);
            b.refusesTape(x, Bounds.NO_NUMBER, "ask " + Arrays.toString(rows), x::ask);
        }
    }

    // ---- rumours

    private void rumoursAre(DreamFort x, int pairs, int first, int next, int... rows) {
        String told = Arrays.toString(rows);
        Check.putRows(x, rows);
        b.is("pairs by " + told, x.rumour(false), pairs);
        b.is("the tape", Bounds.tapeOf(x), 0);
        Check.putRows(x, rows);
        b.is("first by " + told, x.rumour(true), first);
        b.is("the tape", Bounds.tapeOf(x), 0);
        Check.putRows(x, rows);
        b.is("next by " + told, x.next(), next);
        b.is("the tape", Bounds.tapeOf(x), 0);
    }

    private void rumours() {
        b.says(Bounds.TERMS, "RUMOUR: told are rows: a SLEEPER and of whom it dreamt (a PRISONER; 6: of nobody); unknown is one MARK of one PRISONER"
                + " (OUT or not) that was TOLD all SLEEPERS more (as far as he has it): pairs (6 times the PRISONER and the MARK, of MARKS he has) by"
                + " which each such SLEEPER has that DREAM: how many; FIRST: the least; none.");
        DreamFort x = Check.made(BoundsOfTexts.times(5, "prisoner years 1 marks a") + ";prisoner years 1 marks ef;sleeper sleep 100;sleeper sleep 0");
        rumoursAre(x, 7, 0, 0);
        rumoursAre(x, 2, 34, 0, 0, 5);
        rumoursAre(x, 1, 24, -1, 0, 4);
        rumoursAre(x, 0, -1, -1, 0, 6);
        rumoursAre(x, 2, 34, 0, 0, 5, 1, 5);
        rumoursAre(x, 0, -1, -1, 0, 5, 1, 4);
        b.is("nothing of it stays", x.count(7), 0);
        DreamFort full = Check.made(BoundsOfTexts.times(6, "prisoner years 1 marks abcdef") + ";sleeper sleep 0");
        rumoursAre(full, 36, 0, 0);
        rumoursAre(full, 6, 30, 0, 0, 5);
        DreamFort out = Check.made("prisoner years 1 marks ab;prisoner years 1 marks f;sleeper sleep 100;told 0 0 ab");
        out.nights(1);
        // of one out two marks are pairs, by which nobody is dreamt of
        rumoursAre(out, 3, 0, 0);
        rumoursAre(out, 2, 0, 0, 0, 6);
        rumoursAre(out, 1, 11, -1, 0, 1);
        rumoursAre(Check.made("prisoner years 1;sleeper sleep 0"), 0, -1, -1);
        DreamFort again = Check.made("prisoner years 1 marks ab;sleeper sleep 0;told 0 0 a");
        rumoursAre(again, 2, 0, 0, 0, 0);
        // of the second both were told one mark: by that one again he pulls no more, by the other he does
        DreamFort same = Check.made("prisoner years 1 marks f;prisoner years 1 marks ab;sleeper sleep 0;told 0 0 f;told 0 1 b");
        rumoursAre(same, 1, 6, -1, 0, 1);
        rumoursAre(same, 2, 5, 0, 0, 0);
        DreamFort shared = Check.made("prisoner years 1 marks a;prisoner years 1 marks b;sleeper sleep 0;sleeper sleep 0;told 0 0 a",
                "pull 1 if shared");
        // told to all, b is shared: 3 and more than a, which is not
        rumoursAre(shared, 1, 7, -1, 0, 1);
    }

    private void next() {
        b.says(Bounds.TERMS, "NEXT: the SLEEPER by whose DREAM those that fit are parted so that the greatest part is the least (of several the least;"
                + " none with fewer than two).");
        // sleeper 0 dreams of prisoner 0 whatever comes, 1 and 2 of whom the rumour is
        DreamFort x = Check.made("prisoner years 1 marks abc;prisoner years 1 marks c;sleeper sleep 0;sleeper sleep 0;sleeper sleep 0;told 0 0 ab");
        rumoursAre(x, 4, 0, 1);
        rumoursAre(x, 3, 0, 0, 2, 0);
        rumoursAre(x, 1, 8, -1, 2, 1);
        rumoursAre(x, 0, -1, -1, 0, 1);
        // the sixth alone dreams of whom the rumour is
        DreamFort six = Check.made("prisoner years 1 marks abc;prisoner years 1 marks c;" + BoundsOfTexts.times(6, "sleeper sleep 0"));
        Check.put(six, "told 0 0 ab;told 1 0 ab;told 2 0 ab;told 3 0 ab;told 4 0 ab");
        six.fortress();
        rumoursAre(six, 4, 0, 5);
        rumoursAre(Check.made("prisoner years 1 marks ab"), 2, 0, -1);
        // sleeper 0 dreams of nobody by the two marks of one out, sleeper 1 always of the other one
        DreamFort out = Check.made("prisoner years 1 marks ab;prisoner years 1 marks c;sleeper sleep 100;sleeper sleep 0;told 0 0 ab;told 1 1 c");
        out.nights(1);
        for (int i = 0; i < 4; i++) {
            rumoursAre(out, 3, 0, 0);
        }
    }

    private void rumourTapes() {
        DreamFort x = Check.made("prisoner years 1 marks ab;prisoner years 1;sleeper sleep 0;sleeper sleep 0");
        int[][] wrong = {{0}, {0, 0, 1}, {2, 0}, {6, 0}, {255, 0}, {0, 2}, {0, 5}, {0, 7}, {0, 255}, {1, 1, 2, 6}, {1, 6, 1, 2}, rowsOf(39), rowsOf(41),
            rowsOf(42), rowsOf(400)};
        b.says(28, "Uses the TAPE up: RUMOUR (of each two bytes: the SLEEPER, the PRISONER that there is, or 6; at most 40 bytes): how many pairs"
                + " (first false), or FIRST; NONE.");
        rumoursAre(x, 2, 0, 0, rowsOf(40));
        rumoursAre(x, 0, -1, -1, 1, 1);
        rumoursAre(x, 0, -1, -1, 1, 6);
        b.says(28, "IllegalArgumentException: the TAPE is not that (none may be told).");
        rumoursAre(x, 2, 0, 0);
        for (int[] rows : wrong) {
            Check.putRows(x, rows);
            b.refusesTape(x, Bounds.NO_NUMBER, "rumour " + Arrays.toString(rows), () -> x.rumour(false));
            Check.putRows(x, rows);
            b.refusesTape(x, Bounds.NO_NUMBER, "first " + Arrays.toString(rows), () -> x.rumour(true));
        }
        b.says(29, "Uses the TAPE up: NEXT (the TAPE as for RUMOUR); NONE.");
        rumoursAre(x, 2, 0, 0, 0, 0, 1, 0);
        rumoursAre(x, 0, -1, -1, 0, 1);
        b.says(29, "IllegalArgumentException: the TAPE is not that.");
        for (int[] rows : wrong) {
            Check.putRows(x, rows);
            b.refusesTape(x, Bounds.NO_NUMBER, "next " + Arrays.toString(rows), x::next);
        }
        DreamFort empty = new DreamFort();
        Check.putRows(empty, 0, 6);
        b.refusesTape(empty, Bounds.NO_NUMBER, "a sleeper of nobody", empty::next);
        DreamFort full = Check.made(BoundsOfTexts.times(6, "prisoner years 1 marks a") + ";" + BoundsOfTexts.times(6, "sleeper sleep 0"));
        rumoursAre(full, 1, 30, -1, 5, 5);
        Check.putRows(full, 6, 5);
        b.refusesTape(full, Bounds.NO_NUMBER, "a seventh sleeper", full::next);
    }

    // ---- never, beds, couples

    private void never() {
        b.says(Bounds.TERMS, "NEVER: PRISONERS not OUT who are nobody's GOOD DREAM and have no NEED of any SLEEPER, as bits.");
        DreamFort x = Check.made("prisoner years 1 marks ab;prisoner years 1 marks a;prisoner years 1;prisoner years 1 marks abc;sleeper sleep 100;"
                + "sleeper sleep 0 met 3;told 0 0 ab");
        // 3 can be told of all three to sleeper 0
        b.is("one with one mark, one with none", x.never(), 2 + 4);
        x.meet(0, 3);
        b.is("one whom both met", x.never(), 2 + 4 + 8);
        x.strict(1);
        b.is("one mark will do for sleeper 1", x.never(), 4 + 8);
        x.strict(6);
        b.is("all", x.never(), 15);
        x.strict(2);
        x.nights(1);
        b.is("not one that is out", x.never(), 2 + 4 + 8);
        b.says(33, "NEVER, as bits.");
        b.is("without sleepers all", Check.made(BoundsOfTexts.times(6, "prisoner years 1 marks abcdef")).never(), 63);
        b.is("without prisoners", Check.made("sleeper sleep 1").never(), 0);
    }

    private void bedsAre(DreamFort x, int n, int... due) {
        int[] got = new int[due.length];
        for (int p = 0; p < due.length; p++) {
            got[p] = x.beds(p, n);
        }
        b.same(n + " beds", Arrays.toString(got), Arrays.toString(due));
    }

    private void beds() {
        b.says(Bounds.TERMS, "BEDS of N (0 to 99): N beds are given to PRISONERS not OUT, one by one, each to the one whose YEARS, by 1 more than the beds"
                + " he has so far, rounded down, are the most (of several the least): how many one has.");
        DreamFort x = Check.made("prisoner years 10 marks ab;prisoner years 31;prisoner years 10;sleeper sleep 100;told 0 0 ab");
        // 31, 15, then 10 of all three (31 by 3 is 10): 0 first, then 1, then 2
        bedsAre(x, 0, 0, 0, 0);
        bedsAre(x, 1, 0, 1, 0);
        bedsAre(x, 2, 0, 2, 0);
        bedsAre(x, 3, 1, 2, 0);
        bedsAre(x, 4, 1, 3, 0);
        bedsAre(x, 5, 1, 3, 1);
        // 5, 7, 5: then 6, then 5 of all
        bedsAre(x, 6, 1, 4, 1);
        bedsAre(x, 7, 1, 5, 1);
        bedsAre(x, 8, 2, 5, 1);
        DreamFort zero = Check.made("prisoner years 0;prisoner years 0;prisoner years 1");
        bedsAre(zero, 1, 0, 0, 1);
        // 1 by 2 is 0, so that all have 0 then and the least has all
        bedsAre(zero, 99, 98, 0, 1);
        b.is("99 of one", Check.made("prisoner years 99").beds(0, 99), 99);
        b.says(34, "BEDS (0 of one OUT).");
        x.nights(1);
        bedsAre(x, 4, 0, 3, 1);
        DreamFort nobody = sleeping(100);
        nobody.nights(1);
        b.is("all are out", nobody.beds(0, 99), 0);
    }

    private void bedsAsked() {
        b.says(34, "IllegalArgumentException: N is none.");
        DreamFort x = Check.made("prisoner years 10;prisoner years 20");
        b.refusesEach(x, Bounds.NO_NUMBER, "beds", n -> () -> x.beds(0, n), -1, 100, LEAST, MOST);
        b.refusesEach(x, Bounds.NO_SUCH, "beds of", n -> () -> x.beds(n, 0), -1, 2, 6, LEAST, MOST);
        b.refuses(x, Bounds.NO_SUCH, "both, what is told first", () -> x.beds(2, 100));
    }

    private void couplesAre(String what, DreamFort x, int most, int... due) {
        b.is(what, x.couples(-1), most);
        int[] got = new int[due.length];
        for (int s = 0; s < due.length; s++) {
            got[s] = x.couples(s);
        }
        b.same(what, Arrays.toString(got), Arrays.toString(due));
    }

    private void couples() {
        b.says(Bounds.TERMS, "COUPLES: SLEEPERS put two by two, each in one such pair at most, so that PRISONERS about whom both were TOLD something are"
                + " together the most: how many; with whom one is in the first such way (SLEEPER by SLEEPER, none being the least, then the others);"
                + " none.");
        DreamFort x = Check.made("prisoner years 1 marks ab;prisoner years 1 marks ab;prisoner years 1 marks ab;"
                + BoundsOfTexts.times(6, "sleeper sleep 0"));
        couplesAre("told nothing", x, 0, -1, -1, -1, -1, -1, -1);
        for (int s = 0; s < 3; s++) {
            x.tell(s, s, 0);
            x.tell(5 - s, s, 1);
        }
        couplesAre("three pairs from the outside", x, 3, 5, 4, 3, 2, 1, 0);
        x.tell(0, 1, 0);
        couplesAre("no more by one that has two", x, 3, 5, 4, 3, 2, 1, 0);
        DreamFort alike = Check.made("prisoner years 1 marks ab;" + BoundsOfTexts.times(5, "sleeper sleep 0")
                + ";told 0 0 a;told 1 0 b;told 2 0 a;told 3 0 b;told 4 0 ab");
        couplesAre("five alike", alike, 2, -1, 2, 1, 4, 3);
        Check.put(alike, "sleeper sleep 0;told 5 0 a");
        alike.fortress();
        couplesAre("six alike", alike, 3, 1, 0, 3, 2, 5, 4);
        DreamFort two = Check.made("prisoner years 1 marks ab;prisoner years 1 marks ab;sleeper sleep 0;sleeper sleep 0;sleeper sleep 0;"
                + "told 0 0 a;told 0 1 a;told 1 0 a;told 2 0 a;told 2 1 ab");
        couplesAre("two of whom both were told", two, 2, 2, -1, 0);
        DreamFort all = Check.made(BoundsOfTexts.times(6, "prisoner years 1 marks a") + ";sleeper sleep 0;sleeper sleep 0");
        for (int p = 0; p < 6; p++) {
            all.tell(0, p, 0);
            all.tell(1, p, 0);
        }
        couplesAre("all six", all, 6, 1, 0);
    }

    private void couplesAsked() {
        b.says(35, "COUPLES: how many (sleeper NONE), or with whom one is; NONE.");
        DreamFort x = Check.made("prisoner years 1 marks a;sleeper sleep 0;sleeper sleep 0;told 0 0 a;told 1 0 a");
        couplesAre("two", x, 1, 1, 0);
        b.is("of nobody", new DreamFort().couples(-1), 0);
        b.is("one alone", Check.made("sleeper sleep 0").couples(0), -1);
        b.refusesEach(x, Bounds.NO_SUCH, "couples", n -> () -> x.couples(n), -2, 2, 6, LEAST, MOST);
        DreamFort nobody = new DreamFort();
        b.refuses(nobody, Bounds.NO_SUCH, "of nobody, the first", () -> nobody.couples(0));
    }
}
