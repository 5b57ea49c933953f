/** The Terms of dreams, nights, acts and the log, and promises 11 to 18 and 45 to 54, at their boundaries. */
final class BoundsOfNights {
    /** From SEED 1 the draws are 16838, 5758, 10113, 17515, 31051, 5627, 23010, 7419: modulo 100 these. */
    private static final int[] DRAWS = {38, 58, 13, 15, 51, 27, 10, 19};
    private static final int[] BEYOND_60 = {-1, 61, Integer.MIN_VALUE, Integer.MAX_VALUE};

    private final Bounds b;

    BoundsOfNights(Bounds bounds) {
        b = bounds;
    }

    void run() {
        pulls();
        noPulls();
        wakes();
        chances();
        dreams();
        goodDreams();
        byAllAsItIsAhead();
        belowItsChance();
        outByGoodDreams();
        fading();
        awakeNoMore();
        nightIsOneMore();
        draws();
        aheadInTheTerms();
        eachIsAnAct();
        theLatest60();
        rowsOfTheLog();
        nights();
        tell();
        cheese();
        meet();
        wake();
        strict();
        retake();
        forget();
        ahead();
        trial();
        span();
        led();
        log();
        seed();
        undone();
        noneRemembered();
        image();
        count();
    }

    /** Two prisoners who are dreamt of each night and get out of it (seven years and thirty), one who never is. */
    private static DreamFort open() {
        return Check.made("prisoner years 7 marks ab;prisoner years 30 marks ab;prisoner years 9 marks c;"
                + "sleeper sleep 100;sleeper sleep 100;told 0 0 ab;told 1 1 ab");
    }

    // ---- pulls and chances

    private void pulls() {
        b.says(Bounds.TERMS, "PULL: twice told, and the sum of N of all pull LINES that hold;");
        String house = "prisoner years 1 marks abcdef;sleeper sleep 1;told 0 0 ";
        b.is("one told, no law", Check.made(house + "a").pull(0, 0), 2);
        b.is("six told, no law", Check.made(house + "abcdef").pull(0, 0), 12);
        b.is("a law without lines", Check.made(house + "a", "").pull(0, 0), 2);
        b.is("none holds", Check.made(house + "a", "pull 100 if 1<1;wake 100;fade").pull(0, 0), 2);
        b.is("some hold", Check.made(house + "a", "pull 1;pull 2 if 1<1;pull 4;pull 8").pull(0, 0), 15);
        String all = BoundsOfTexts.times(12, "pull 100");
        b.is("the greatest", Check.made(house + "abcdef", all).pull(0, 0), 1212);
        b.says(10, "PULL.");
        DreamFort x = Check.made(house + "ab", "pull 3 if told > 1");
        b.is("pull", x.pull(0, 0), 7);
        b.refusesEach(x, Bounds.NO_SUCH, "pull, the sleeper", n -> () -> x.pull(n, 0), -1, 1, 6, Integer.MIN_VALUE, Integer.MAX_VALUE);
        b.refusesEach(x, Bounds.NO_SUCH, "pull, the prisoner", n -> () -> x.pull(0, n), -1, 1, 6, Integer.MIN_VALUE, Integer.MAX_VALUE);
    }

    private void noPulls() {
        b.says(Bounds.TERMS, "0, if told is 0 or he is OUT.");
        DreamFort x = Check.made("prisoner years 1 marks ab;prisoner years 1;sleeper sleep 100;told 0 0 ab", "pull 50");
        b.is("told two", x.pull(0, 0), 54);
        b.is("told nothing, whatever the law says", x.pull(0, 1), 0);
        x.nights(1);
        b.is("he is out", x.pull(0, 0), 0);
        x.retake(0);
        b.is("he is back", x.pull(0, 0), 54);
        x.forget(0);
        b.is("forgotten", x.pull(0, 0), 0);
    }

    private void wakes() {
        b.says(Bounds.TERMS, "WAKES of a SLEEPER: the sum of N of all wake LINES that hold (prisoner, years, marks, told as 0, neither met"
                + " nor shared).");
        String house = "prisoner years 9 marks ab;prisoner years 9 marks ab;sleeper sleep 100 cheese 0 met 0;sleeper sleep 100 met 1;"
                + "told 0 0 ab;told 1 0 ab;told 0 1 ab;told 1 1 ab";
        String[] none = {"met", "shared", "awake", "prisoner > 0", "years > 0", "marks > 0", "told > 0"};
        for (String condition : none) {
            DreamFort x = Check.made(house, "wake 30 if " + condition);
            b.is("wake if " + condition, x.sleeper(1, 4), 100);
            b.is("a pull that is asked for", x.pull(1, 1), 4);
            b.is("behind it wake if " + condition, x.sleeper(1, 4), 100);
            b.is("wake if not " + condition, Check.made(house, "wake 30 if not " + condition).sleeper(1, 4), 70);
        }
        b.is("by the sleeper's number", Check.made(house, "wake 30 if sleeper > 0").sleeper(1, 4), 70);
        b.is("not that one", Check.made(house, "wake 30 if sleeper > 0").sleeper(0, 4), 100);
        b.is("by its sleep", Check.made(house, "wake 30 if sleep > 99").sleeper(0, 4), 70);
        b.is("by its cheese", Check.made(house, "wake 30 if cheese < 1").sleeper(0, 4), 70);
        b.is("the sum of two of three", Check.made(house, "wake 30;wake 4;wake 5 if 1<1;pull 7;fade").sleeper(0, 4), 66);
    }

    private void chances() {
        b.says(Bounds.TERMS, "CHANCE: 0, if it is AWAKE; else SLEEP, and 5 times CHEESE, less WAKES (0 to 100).");
        DreamFort x = Check.made("sleeper sleep 55 cheese 9;sleeper sleep 56 cheese 9;sleeper sleep 100 cheese 9;sleeper sleep 0;"
                + "sleeper sleep 20;sleeper sleep 100 awake");
        int[] due = {100, 100, 100, 0, 20, 0};
        for (int s = 0; s < 6; s++) {
            b.is("chance of " + s, x.sleeper(s, 4), due[s]);
        }
        x.cheese(4, 1);
        b.is("a cheese more", x.sleeper(4, 4), 25);
        x.wake(0);
        b.is("awake now", x.sleeper(0, 4), 0);
        Check.put(x, "wake 24");
        x.law();
        int[] less = {0, 77, 100, 0, 1, 0};
        for (int s = 0; s < 6; s++) {
            b.is("chance of " + s + " by the law", x.sleeper(s, 4), less[s]);
        }
        Check.put(x, "wake 25");
        x.law();
        b.is("25 less 25", x.sleeper(4, 4), 0);
        Check.put(x, "wake 26");
        x.law();
        b.is("25 less 26", x.sleeper(4, 4), 0);
        Check.put(x, "wake 45;wake 1");
        x.law();
        b.is("145 less 46: 100 is the bound of what is left alone", x.sleeper(2, 4), 99);
    }

    private void dreams() {
        b.says(Bounds.TERMS, "DREAM of a SLEEPER: the PRISONER of the greatest PULL above 0 (of several the least); none.");
        DreamFort x = Check.made("prisoner years 1 marks ab;prisoner years 1 marks ab;prisoner years 1 marks ab;sleeper sleep 100", "pull 9");
        b.is("none", x.sleeper(0, 5), -1);
        x.tell(0, 2, 0);
        b.is("the only one", x.sleeper(0, 5), 2);
        x.tell(0, 1, 1);
        b.is("of two alike the least", x.sleeper(0, 5), 1);
        x.tell(0, 2, 1);
        b.is("the greatest", x.sleeper(0, 5), 2);
        x.tell(0, 0, 0);
        x.tell(0, 0, 1);
        b.is("the least once more", x.sleeper(0, 5), 0);
        x.nights(1);
        b.is("not one that is out", x.sleeper(0, 5), 2);
        x.nights(1);
        x.forget(0);
        b.is("none any more", x.sleeper(0, 5), -1);
        b.is("none is not good", x.sleeper(0, 6), 0);
    }

    private void goodDreams() {
        b.says(Bounds.TERMS, "GOOD: it did not MEET him, and as many of his MARKS as STRICT are TOLD it, at least.");
        DreamFort x = Check.made("prisoner years 1 marks abcdef;sleeper sleep 1;told 0 0 ab");
        int[][] due = {{1, 1}, {2, 1}, {3, 0}, {6, 0}};
        for (int[] row : due) {
            x.strict(row[0]);
            b.is("two told of strict " + row[0], x.sleeper(0, 6), row[1]);
        }
        for (int m = 2; m < 6; m++) {
            b.is("not yet", x.sleeper(0, 6), 0);
            x.tell(0, 0, m);
        }
        b.is("six told of strict 6", x.sleeper(0, 6), 1);
        x.meet(0, 0);
        b.is("it met him", x.sleeper(0, 6), 0);
        b.is("it dreams of him all the same", x.sleeper(0, 5), 0);
    }

    // ---- a night

    private void byAllAsItIsAhead() {
        b.says(Bounds.TERMS, "A NIGHT more: (a) each SLEEPER, by numbers, by all as it is ahead of the NIGHT:");
        DreamFort x = Check.made("prisoner years 1 marks ab;prisoner years 1 marks ab;sleeper sleep 100;sleeper sleep 100;"
                + "told 0 0 ab;told 1 0 ab;told 1 1 a", "fade");
        x.nights(1);
        b.is("two dreams of one", x.count(8), 2);
        b.is("the second dreams of him whom the first lets out", x.log(0, 2), 0);
        b.is("and well, though it fades behind", x.log(0, 3), 1);
        b.is("faded", x.told(0, 0), 2);
        x.nights(1);
        b.is("the night behind: one dream, of another", x.count(8), 2);
        b.is("of him it was told nothing any more", x.told(1, 1), 0);
    }

    private void belowItsChance() {
        b.says(Bounds.TERMS, "if DRAW modulo 100 is below its CHANCE (the DRAW always), it dreams its DREAM, if it has one;");
        for (int less = 0; less <= 1; less++) {
            for (int s = 0; s < 4; s++) {
                StringBuilder house = new StringBuilder("prisoner years 1 marks a");
                for (int t = 0; t < 4; t++) {
                    house.append(";sleeper sleep ").append(t == s ? DRAWS[t] + 1 - less : 0);
                }
                DreamFort x = Check.made(house + ";told " + s + " 0 a");
                x.nights(1);
                b.is("sleeper " + s + " at its draw, less " + less, x.count(8), 1 - less);
            }
        }
        DreamFort x = Check.made("prisoner years 1 marks a;sleeper sleep 0;sleeper sleep 100 awake;sleeper sleep 100;sleeper sleep 16;"
                + "told 3 0 a");
        x.nights(1);
        b.is("draws of one that cannot, one awake and one without a dream are used: the fourth is 15", x.count(8), 1);
        b.is("the only row", x.log(0, 1), 3);
        DreamFort never = Check.made("prisoner years 1 marks a;sleeper sleep 0;sleeper sleep 100;told 0 0 a;told 1 0 a");
        never.nights(60);
        b.is("chance 0 never dreams, 100 always", never.count(8), 60);
        b.is("all of the second", never.log(59, 1), 1);
    }

    private void outByGoodDreams() {
        b.says(Bounds.TERMS, "(b) each PRISONER, by numbers, not OUT, of whom somebody dreams: he is OUT, if some such dream is GOOD;");
        String house = "prisoner years 1 marks ab;prisoner years 1 marks ab;sleeper sleep 100;sleeper sleep 100 met 0;sleeper sleep 100;";
        DreamFort vain = Check.made(house + "told 0 0 a;told 1 0 ab");
        b.is("one told too little and one that met him", vain.nights(60), 0);
        b.is("dream in vain", vain.count(8), 60);
        DreamFort some = Check.made(house + "told 0 0 a;told 1 0 ab;told 2 0 ab");
        b.is("one of three is good", some.nights(1), 1);
        b.is("he is out", some.out(), 1);
        b.is("three dreams", some.count(8), 3);
        DreamFort both = Check.made(house + "told 0 0 ab;told 2 1 ab");
        b.is("two of two", both.nights(1), 2);
        DreamFort twice = Check.made(house + "told 0 0 ab;told 2 0 ab");
        b.is("one by two good dreams", twice.nights(1), 1);
        b.is("nobody dreams of one out", twice.nights(1), 0);
        b.is("no rows more", twice.count(8), 2);
    }

    private void fading() {
        b.says(Bounds.TERMS, "(c) each SLEEPER and each PRISONER (OUT or not): if some fade LINE holds (by all as it is then), of what it was"
                + " TOLD of him the least MARK is not TOLD any more (one SLEEPER behind another, PRISONERS by numbers);");
        DreamFort x = Check.made("prisoner years 1 marks bdf;prisoner years 1 marks ab;sleeper sleep 100;told 0 0 bdf", "fade;fade");
        x.nights(1);
        b.is("the least, one though two lines hold", x.told(0, 0), 40);
        b.is("of what was told nobody nothing fades", x.told(0, 1), 0);
        b.is("he is out", x.out(), 1);
        x.nights(1);
        b.is("of one out, too", x.told(0, 0), 32);
        x.nights(2);
        b.is("the last", x.told(0, 0), 0);
        DreamFort then = Check.made("prisoner years 1 marks ab;sleeper sleep 0;sleeper sleep 0;sleeper sleep 0;"
                + "told 0 0 a;told 1 0 a;told 2 0 a", "fade if shared");
        then.nights(1);
        b.is("as it is then: the first two fade, the third is told alone", then.told(0, 0) * 100 + then.told(1, 0) * 10 + then.told(2, 0), 1);
        DreamFort awake = Check.made("prisoner years 1 marks abc;sleeper sleep 0 awake;sleeper sleep 0;told 0 0 abc;told 1 0 abc",
                "fade if awake;fade if told > 2 and sleeper > 0");
        awake.nights(1);
        b.is("one that was awake fades ahead of the morning", awake.told(0, 0), 6);
        b.is("one told three", awake.told(1, 0), 6);
        awake.nights(60);
        b.is("no more", awake.told(0, 0) * 10 + awake.told(1, 0), 66);
    }

    private void awakeNoMore() {
        b.says(Bounds.TERMS, "(d) AWAKE ones are not AWAKE any more.");
        DreamFort x = Check.made(BoundsOfTexts.times(6, "sleeper sleep 9 awake"));
        b.is("all six", x.awake(), 63);
        x.nights(1);
        b.is("none", x.awake(), 0);
        x.wake(5);
        x.nights(60);
        b.is("none behind sixty", x.awake(), 0);
    }

    private void nightIsOneMore() {
        b.says(Bounds.TERMS, "NIGHT is 1 more (9999 at most).");
        DreamFort x = Check.made("prisoner years 1 marks a;sleeper sleep 100;told 0 0 a;night 999");
        x.nights(1);
        b.is("1000", x.count(4), 1000);
        for (int i = 0; i < 150; i++) {
            x.nights(60);
        }
        b.is("9999", x.count(4), 9999);
        b.is("the latest dream's night", x.log(0, 0), 9999);
        b.is("the one before it", x.log(1, 0), 9998);
        x.nights(2);
        b.is("9999 still", x.count(4), 9999);
        b.is("dreams at 9999", x.log(2, 0), 9999);
        b.is("the last ahead of these", x.log(3, 0), 9998);
    }

    /** DRAW as the document has it, in numbers that are long enough not to go round by themselves. */
    private static int seedBehind(int seed) {
        long all = 1103515245L * seed + 12345L;
        return (int) (all & 0xffffffffL);
    }

    private void draws() {
        b.says(Bounds.TERMS, "DRAW: SEED is 1103515245 times SEED and 12345, as an int that goes round; bits 16 to 30 (SEED 1 at first).");
        b.is("at first", new DreamFort().seed(5), 1);
        for (int seed : new int[] {1, 0, -1, 2, 3, 4, 5, 6, 7, 8, 99, Integer.MAX_VALUE, Integer.MIN_VALUE, 1103515245}) {
            int after = seedBehind(seed);
            int draw = (int) (((after & 0xffffffffL) / 65536) % 32768 % 100);
            DreamFort x = Check.made("prisoner years 1 marks a;sleeper sleep " + draw + ";sleeper sleep 0;told 0 0 a");
            x.seed(seed);
            x.nights(1);
            b.is("no dream at the draw from " + seed, x.count(8), 0);
            b.is("the seed behind two draws from " + seed, x.seed(seed), seedBehind(after));
            x.cheese(0, 1);
            x.nights(1);
            b.is("a dream above it from " + seed, x.count(8), 1);
        }
    }

    private void aheadInTheTerms() {
        b.says(Bounds.TERMS, "AHEAD by N NIGHTS (0 to 60): as so many NIGHTS in which nobody dreams (no DRAWS).");
        DreamFort x = Check.made("prisoner years 1 marks abcdef;sleeper sleep 100 awake;told 0 0 abcdef",
                "fade if awake;fade if told < 6 and told > 2");
        int[] due = {63, 62, 60, 56, 48, 48, 48};
        for (int n = 0; n < due.length; n++) {
            b.is("ahead by " + n, x.ahead(0, 0, n), due[n]);
        }
        b.is("ahead by 60", x.ahead(0, 0, 60), 48);
        b.refusesEach(x, Bounds.NO_NUMBER, "ahead", n -> () -> x.ahead(0, 0, n), BEYOND_60);
        DreamFort out = Check.made("prisoner years 1 marks ab;prisoner years 1 marks ab;sleeper sleep 100;told 0 0 ab;told 0 1 a",
                "fade if prisoner > 0 and sleep > 99");
        String before = Bounds.seen(out);
        b.is("of one who is dreamt of nothing comes", out.ahead(0, 0, 60), 3);
        b.same("nothing happens, no draws", Bounds.seen(out), before);
    }

    // ---- acts and the log

    private void eachIsAnAct() {
        b.says(Bounds.TERMS, "ACTS: NIGHTS; a SLEEPER is TOLD a MARK; it has more CHEESE; it MEETS a PRISONER; an enemy keeps it AWAKE;"
                + " STRICT is told; a PRISONER is taken back (not OUT); one forgets all that it was TOLD.");
        DreamFort x = open();
        String[] seen = new String[9];
        int acts = 0;
        seen[acts++] = Bounds.seen(x);
        x.nights(2);
        seen[acts++] = Bounds.seen(x);
        x.tell(0, 2, 2);
        seen[acts++] = Bounds.seen(x);
        x.cheese(0, 4);
        seen[acts++] = Bounds.seen(x);
        x.meet(0, 2);
        seen[acts++] = Bounds.seen(x);
        x.wake(1);
        seen[acts++] = Bounds.seen(x);
        x.strict(6);
        seen[acts++] = Bounds.seen(x);
        x.retake(1);
        seen[acts++] = Bounds.seen(x);
        x.forget(0);
        b.is("eight acts", x.count(9), 8);
        for (int i = acts - 1; i >= 0; i--) {
            b.is("undo " + i, x.undo(), true);
            b.same("as ahead of act " + i, Bounds.seen(x), seen[i]);
        }
        b.is("none more", x.undo(), false);
        x.seed(9);
        x.image();
        x.end(0);
        x.trial(3, true);
        b.is("a seed, an image, an end, a trial are none", x.count(9), 0);
    }

    private void theLatest60() {
        b.says(Bounds.TERMS, "THE LOG: the latest 60 dreams");
        DreamFort x = Check.made("prisoner years 1 marks a;prisoner years 1 marks a;sleeper sleep 100;told 0 1 a");
        x.nights(1);
        b.is("one", x.count(8), 1);
        x.forget(0);
        x.tell(0, 0, 0);
        x.nights(59);
        b.is("sixty", x.count(8), 60);
        b.is("the first is there still", x.log(59, 2), 1);
        b.is("its night", x.log(59, 0), 0);
        x.nights(1);
        b.is("sixty of sixty-one", x.count(8), 60);
        b.is("the first is gone", x.led(1, false), 0);
        b.is("the oldest", x.log(59, 0), 1);
        b.is("the latest", x.log(0, 0), 60);
        b.is("none sixty ago", x.log(60, 0), -1);
        x.nights(60);
        b.is("all are new", x.log(59, 0), 61);
        b.is("the latest of all", x.log(0, 0), 120);
    }

    private void rowsOfTheLog() {
        b.says(Bounds.TERMS, "(of a NIGHT by SLEEPERS, so that the one of the greatest number is the latest): NIGHT, the SLEEPER, the PRISONER,"
                + " whether GOOD (1) or not (0).");
        DreamFort x = Check.made("prisoner years 1 marks ab;prisoner years 1 marks ab;" + BoundsOfTexts.times(6, "sleeper sleep 100")
                + ";told 0 0 ab;told 2 1 a;told 5 1 ab;night 30");
        x.nights(1);
        int[][] due = {{30, 5, 1, 1}, {30, 2, 1, 0}, {30, 0, 0, 1}};
        for (int ago = 0; ago < 3; ago++) {
            for (int what = 0; what < 4; what++) {
                b.is("log(" + ago + ", " + what + ")", x.log(ago, what), due[ago][what]);
            }
        }
        b.is("three rows", x.count(8), 3);
        x.retake(0);
        x.nights(1);
        b.is("the night behind", x.log(0, 0), 31);
        b.is("the only dream of it", x.log(0, 1), 0);
        b.is("then those before", x.log(1, 1), 5);
    }

    // ---- promises 11 to 18

    private void nights() {
        b.says(11, "So many NIGHTS more (1 to 60): how many are OUT by these.");
        DreamFort x = open();
        b.is("one night", x.nights(1), 2);
        b.is("they were out ahead of this", x.nights(1), 0);
        x.retake(1);
        b.is("one of them again, in sixty", x.nights(60), 1);
        b.is("nights", x.count(4), 62);
        b.says(11, "IllegalArgumentException: they are none.");
        b.refusesEach(x, Bounds.NO_NUMBER, "nights", n -> () -> x.nights(n), 0, -1, 61, Integer.MIN_VALUE, Integer.MAX_VALUE);
    }

    private void tell() {
        b.says(12, "A SLEEPER is TOLD a MARK: how many MARKS of him it was TOLD then.");
        DreamFort x = Check.made("prisoner years 1 marks abcdef;prisoner years 1 marks bc;sleeper sleep 1;sleeper sleep 1");
        for (int m = 5; m >= 0; m--) {
            b.is("mark " + m, x.tell(1, 0, m), 6 - m);
        }
        b.is("told again", x.tell(1, 0, 0), 6);
        b.is("all six", x.told(1, 0), 63);
        b.is("of another", x.tell(1, 1, 2), 1);
        b.is("another was told nothing", x.told(0, 0), 0);
        b.refusesEach(x, Bounds.NO_SUCH, "the sleeper", n -> () -> x.tell(n, 0, 0), -1, 2, Integer.MIN_VALUE, Integer.MAX_VALUE);
        b.refusesEach(x, Bounds.NO_SUCH, "the prisoner", n -> () -> x.tell(0, n, 0), -1, 2, Integer.MIN_VALUE, Integer.MAX_VALUE);
        b.refusesEach(x, Bounds.NO_SUCH, "the mark", n -> () -> x.tell(0, 0, n), -1, 6, Integer.MIN_VALUE, Integer.MAX_VALUE);
        b.says(12, "IllegalStateException: he does not have it.");
        b.refusesEach(x, Bounds.CANNOT_BE, "a mark he does not have", n -> () -> x.tell(0, 1, n), 0, 3, 4, 5);
        b.refusesEach(x, Bounds.NO_SUCH, "a mark that there is not, what is told first", n -> () -> x.tell(0, 1, n), -1, 6);
        b.refuses(x, Bounds.NO_SUCH, "no such sleeper, and he does not have it", () -> x.tell(2, 1, 0));
    }

    private void cheese() {
        b.says(13, "More CHEESE (9 at most): CHEESE then.");
        DreamFort x = Check.made("sleeper sleep 1;sleeper sleep 1 cheese 8;sleeper sleep 1");
        b.is("1", x.cheese(0, 1), 1);
        b.is("7 more", x.cheese(0, 7), 8);
        b.is("9", x.cheese(0, 1), 9);
        b.is("no more", x.cheese(0, 1), 9);
        b.is("nor by nine", x.cheese(0, 9), 9);
        b.is("8 and 9", x.cheese(1, 9), 9);
        b.is("0 and 9", x.cheese(2, 9), 9);
        b.is("as it is asked for", x.sleeper(1, 1), 9);
        b.says(13, "IllegalArgumentException: n is none (1 to 9).");
        b.refusesEach(x, Bounds.NO_NUMBER, "cheese", n -> () -> x.cheese(0, n), 0, -1, 10, Integer.MIN_VALUE, Integer.MAX_VALUE);
        b.refusesEach(x, Bounds.NO_SUCH, "the sleeper", n -> () -> x.cheese(n, 1), -1, 3, 6, Integer.MIN_VALUE, Integer.MAX_VALUE);
        b.refuses(x, Bounds.NO_SUCH, "both, what is told first", () -> x.cheese(3, 10));
    }

    private void meet() {
        b.says(14, "It MEETS one: whether it had not MET him.");
        DreamFort x = Check.made("prisoner years 1;prisoner years 1;sleeper sleep 1 met 1;sleeper sleep 1");
        b.is("had not", x.meet(0, 0), true);
        b.is("had", x.meet(0, 0), false);
        b.is("had by the text", x.meet(0, 1), false);
        b.is("another had not", x.meet(1, 1), true);
        b.is("met", x.sleeper(0, 3) * 10 + x.sleeper(1, 3), 32);
        b.refusesEach(x, Bounds.NO_SUCH, "the sleeper", n -> () -> x.meet(n, 0) ? 1 : 0, -1, 2, Integer.MIN_VALUE, Integer.MAX_VALUE);
        b.refusesEach(x, Bounds.NO_SUCH, "the prisoner", n -> () -> x.meet(0, n) ? 1 : 0, -1, 2, Integer.MIN_VALUE, Integer.MAX_VALUE);
    }

    private void wake() {
        b.says(15, "An enemy keeps it AWAKE: whether it was not.");
        DreamFort x = Check.made("sleeper sleep 1;sleeper sleep 1 awake");
        b.is("was not", x.wake(0), true);
        b.is("was", x.wake(0), false);
        b.is("was by the text", x.wake(1), false);
        x.nights(1);
        b.is("was not in the morning", x.wake(1), true);
        b.is("awake", x.awake(), 2);
        b.refusesEach(x, Bounds.NO_SUCH, "wake", n -> () -> x.wake(n) ? 1 : 0, -1, 2, Integer.MIN_VALUE, Integer.MAX_VALUE);
    }

    private void strict() {
        b.says(16, "STRICT is told: what it was.");
        DreamFort x = new DreamFort();
        b.is("2 at first", x.strict(1), 2);
        b.is("1", x.strict(6), 1);
        b.is("6", x.strict(6), 6);
        b.is("count", x.count(5), 6);
        b.says(16, "IllegalArgumentException: n is none (1 to 6).");
        b.refusesEach(x, Bounds.NO_NUMBER, "strict", n -> () -> x.strict(n), 0, 7, -1, Integer.MIN_VALUE, Integer.MAX_VALUE);
    }

    private void retake() {
        b.says(17, "Taken back: how many are OUT then.");
        DreamFort x = open();
        x.nights(1);
        b.is("one is left", x.retake(0), 1);
        b.is("out", x.out(), 2);
        b.is("none is left", x.retake(1), 0);
        b.is("none out", x.out(), 0);
        b.says(17, "IllegalStateException: he is not OUT.");
        b.refusesEach(x, Bounds.CANNOT_BE, "retake", n -> () -> x.retake(n), 0, 1, 2);
        b.refusesEach(x, Bounds.NO_SUCH, "retake", n -> () -> x.retake(n), -1, 3, Integer.MIN_VALUE, Integer.MAX_VALUE);
    }

    private void forget() {
        b.says(18, "It forgets: how many MARKS of all together it was TOLD.");
        DreamFort x = Check.made("prisoner years 1 marks abcdef;prisoner years 1 marks ab;sleeper sleep 1 met 0;sleeper sleep 1;"
                + "told 0 0 abcdef;told 0 1 ab;told 1 0 c");
        b.is("eight of two", x.forget(0), 8);
        b.is("none of the first", x.told(0, 0), 0);
        b.is("none of the second", x.told(0, 1), 0);
        b.is("whom it met it does not forget", x.sleeper(0, 3), 1);
        b.is("the other one knows still", x.told(1, 0), 4);
        b.is("nothing to forget", x.forget(0), 0);
        b.refusesEach(x, Bounds.NO_SUCH, "forget", n -> () -> x.forget(n), -1, 2, Integer.MIN_VALUE, Integer.MAX_VALUE);
        DreamFort all = Check.made(BoundsOfTexts.times(6, "prisoner years 1 marks abcdef") + ";sleeper sleep 1");
        Check.put(all, "told 0 0 abcdef;told 0 1 abcdef;told 0 2 abcdef;told 0 3 abcdef;told 0 4 abcdef;told 0 5 abcdef");
        all.fortress();
        b.is("all that can be told one", all.forget(0), 36);
    }

    // ---- promises 45 to 54

    private void ahead() {
        b.says(45, "AHEAD by N NIGHTS of a SLEEPER and a PRISONER: MARKS that it was TOLD then, as bits.");
        DreamFort x = Check.made("prisoner years 1 marks ab;prisoner years 1 marks ef;sleeper sleep 1;sleeper sleep 1;"
                + "told 0 0 ab;told 1 1 ef;told 1 0 b", "fade if sleeper > 0 and prisoner > 0");
        b.is("0 nights", x.ahead(1, 1, 0), 48);
        b.is("1 night", x.ahead(1, 1, 1), 32);
        b.is("2 nights", x.ahead(1, 1, 2), 0);
        b.is("60 nights", x.ahead(1, 1, 60), 0);
        b.is("what does not fade", x.ahead(0, 0, 60), 3);
        b.is("nor of the other", x.ahead(1, 0, 60), 2);
        b.says(45, "IllegalArgumentException: N is none.");
        b.refusesEach(x, Bounds.NO_NUMBER, "ahead", n -> () -> x.ahead(0, 0, n), BEYOND_60);
        b.refusesEach(x, Bounds.NO_SUCH, "the sleeper", n -> () -> x.ahead(n, 0, 0), -1, 2, Integer.MIN_VALUE, Integer.MAX_VALUE);
        b.refusesEach(x, Bounds.NO_SUCH, "the prisoner", n -> () -> x.ahead(0, n, 0), -1, 2, Integer.MIN_VALUE, Integer.MAX_VALUE);
        b.refuses(x, Bounds.NO_SUCH, "both, what is told first", () -> x.ahead(0, 2, 61));
    }

    private void trial() {
        b.says(Bounds.TERMS, "TRIAL of N NIGHTS (0 to 60) from now (draws, too; nothing stays): PRISONERS OUT then, as bits; how many dreams there"
                + " were.");
        DreamFort x = open();
        String before = Bounds.seen(x);
        b.is("0 nights", x.trial(0, false), 0);
        b.is("no dreams", x.trial(0, true), 0);
        b.is("1 night", x.trial(1, false), 3);
        b.is("60 nights", x.trial(60, false), 3);
        b.is("two dreams, then nobody is left", x.trial(60, true), 2);
        b.same("nothing stays", Bounds.seen(x), before);
        DreamFort draws = Check.made("prisoner years 1 marks ab;sleeper sleep 14;sleeper sleep 0;told 0 0 ab");
        // the sleeper's own draws are 38, 13, 51
        b.is("from now, draws, too: not in 1", draws.trial(1, false), 0);
        b.is("in 2", draws.trial(2, false), 1);
        draws.seed(seedBehind(seedBehind(1)));
        b.is("one night later: in 1", draws.trial(1, false), 1);
        draws.nights(1);
        b.is("those who are out now", draws.trial(0, false), 1);
        DreamFort many = Check.made("prisoner years 1 marks a;" + BoundsOfTexts.times(6, "sleeper sleep 100")
                + ";told 0 0 a;told 1 0 a;told 2 0 a;told 3 0 a;told 4 0 a;told 5 0 a");
        b.is("six dreams a night", many.trial(60, true), 360);
        b.says(46, "TRIAL: PRISONERS, as bits (dreams false), or how many dreams.");
        DreamFort last = Check.made(BoundsOfTexts.times(6, "prisoner years 1 marks ab") + ";sleeper sleep 100;told 0 5 ab");
        b.is("the sixth's bit", last.trial(1, false), 32);
        b.is("his dream", last.trial(1, true), 1);
        b.says(46, "IllegalArgumentException: N is none.");
        b.refusesEach(x, Bounds.NO_NUMBER, "trial", n -> () -> x.trial(n, false), BEYOND_60);
        b.refusesEach(x, Bounds.NO_NUMBER, "trial of dreams", n -> () -> x.trial(n, true), BEYOND_60);
    }

    private void span() {
        b.says(Bounds.TERMS, "SPAN: the least and the greatest YEARS of all OUT together so from SEED 1, 2, .. 6.");
        // the first draws from the seeds 1 to 6, modulo 100: 38, 8, 47, 17, 55, 26
        int[][] due = {{8, 0, 0}, {9, 0, 99}, {55, 0, 99}, {56, 99, 99}};
        for (int[] row : due) {
            DreamFort x = Check.made("prisoner years 99 marks ab;sleeper sleep " + row[0] + ";told 0 0 ab");
            x.seed(77);
            String before = Bounds.seen(x);
            b.is("the least at " + row[0], x.span(1, false), row[1]);
            b.is("the greatest at " + row[0], x.span(1, true), row[2]);
            b.same("nothing stays", Bounds.seen(x), before);
        }
        spansOfEachSeed();
        DreamFort x = open();
        b.is("0 nights", x.span(0, true), 0);
        b.is("all whom a night lets out", x.span(1, false), 37);
        b.is("60 nights", x.span(60, true), 37);
        x.nights(1);
        b.is("those who are out now, in 0 nights", x.span(0, false), 37);
        b.says(47, "SPAN: the least (most false), or the greatest.");
        x.retake(1);
        x.forget(1);
        b.is("the least: one who is out now", x.span(60, false), 7);
        b.is("the greatest, likewise", x.span(60, true), 7);
        b.says(47, "IllegalArgumentException: N is none.");
        b.refusesEach(x, Bounds.NO_NUMBER, "span", n -> () -> x.span(n, false), BEYOND_60);
        b.refusesEach(x, Bounds.NO_NUMBER, "span, the most", n -> () -> x.span(n, true), BEYOND_60);
    }

    /** In so many nights that each of the six seeds once has the least or the greatest draw, where all turns by it. */
    private void spansOfEachSeed() {
        int decisive = 0;
        for (int n = 1; n <= 60; n++) {
            int[] least = new int[6];
            for (int i = 0; i < 6; i++) {
                least[i] = leastDraw(i + 1, n);
            }
            int[] sorted = least.clone();
            java.util.Arrays.sort(sorted);
            for (int i = 0; i < 6; i++) {
                boolean first = least[i] == sorted[0] && sorted[0] < sorted[1];
                boolean last = least[i] == sorted[5] && sorted[5] > sorted[4];
                decisive |= first || last ? 1 << i : 0;
            }
            for (int chance : new int[] {sorted[0], sorted[0] + 1, sorted[5], sorted[5] + 1}) {
                DreamFort x = Check.made("prisoner years 99 marks ab;sleeper sleep " + chance + ";told 0 0 ab");
                b.is("the least of " + n + " nights at " + chance, x.span(n, false), sorted[5] < chance ? 99 : 0);
                b.is("the greatest of " + n + " nights at " + chance, x.span(n, true), sorted[0] < chance ? 99 : 0);
            }
        }
        b.is("each of the six seeds counted", decisive, 63);
    }

    /** The least of so many draws of one sleeper, modulo 100. */
    private static int leastDraw(int seed, int n) {
        int least = 100;
        int at = seed;
        for (int i = 0; i < n; i++) {
            at = seedBehind(at);
            least = Math.min(least, (int) ((at & 0xffffffffL) / 65536 % 32768 % 100));
        }
        return least;
    }

    private void led() {
        b.says(Bounds.TERMS, "LED: how many rows of THE LOG are of a PRISONER; the NIGHT of the latest (none).");
        DreamFort x = Check.made("prisoner years 1 marks a;prisoner years 1 marks a;sleeper sleep 100;sleeper sleep 100;told 0 0 a;told 1 0 a");
        b.is("no rows", x.led(0, false), 0);
        b.is("no night", x.led(0, true), -1);
        x.nights(1);
        b.is("two rows of a night", x.led(0, false), 2);
        b.is("night 0", x.led(0, true), 0);
        b.is("none of another", x.led(1, false), 0);
        b.is("no night of another", x.led(1, true), -1);
        x.nights(29);
        b.is("sixty rows", x.led(0, false), 60);
        x.forget(1);
        x.tell(1, 1, 0);
        x.nights(1);
        b.is("sixty rows of two", x.led(0, false) * 100 + x.led(1, false), 5901);
        b.is("the latest of the other", x.led(1, true), 30);
        x.nights(59);
        b.is("thirty each", x.led(0, false) * 100 + x.led(1, false), 3030);
        b.is("the latest", x.led(0, true), 89);
        b.says(48, "LED: how many rows (night false), or the NIGHT; NONE.");
        b.refusesEach(x, Bounds.NO_SUCH, "led", n -> () -> x.led(n, false), -1, 2, 6, Integer.MIN_VALUE, Integer.MAX_VALUE);
        b.refusesEach(x, Bounds.NO_SUCH, "led, the night", n -> () -> x.led(n, true), -1, 2, 6, Integer.MIN_VALUE, Integer.MAX_VALUE);
        x.forget(0);
        x.nights(60);
        b.is("none any more", x.led(0, false), 0);
        b.is("no night any more", x.led(0, true), -1);
    }

    private void log() {
        b.says(49, "THE LOG so many ago (0 the latest) what 0 NIGHT, 1 the SLEEPER, 2 the PRISONER, 3 1 if GOOD; NONE without.");
        DreamFort x = Check.made("prisoner years 1 marks a;prisoner years 1 marks ab;sleeper sleep 100;sleeper sleep 100;told 0 0 a;told 1 1 ab;"
                + "night 5");
        for (int what = 0; what < 4; what++) {
            b.is("of none", x.log(0, what), -1);
        }
        x.nights(1);
        int[][] due = {{5, 1, 1, 1}, {5, 0, 0, 0}};
        for (int what = 0; what < 4; what++) {
            b.is("the latest, " + what, x.log(0, what), due[0][what]);
            b.is("the one before, " + what, x.log(1, what), due[1][what]);
            for (int ago : new int[] {2, 59, 60, -1, Integer.MIN_VALUE, Integer.MAX_VALUE}) {
                b.is("log(" + ago + ", " + what + ")", x.log(ago, what), -1);
            }
        }
        b.says(49, "NoSuchElementException: another what.");
        b.refusesEach(x, Bounds.NO_WHAT, "log", n -> () -> x.log(0, n), -1, 4, Integer.MIN_VALUE, Integer.MAX_VALUE);
        b.refusesEach(x, Bounds.NO_WHAT, "log without a row", n -> () -> x.log(2, n), -1, 4, Integer.MIN_VALUE, Integer.MAX_VALUE);
        DreamFort fresh = new DreamFort();
        b.refuses(fresh, Bounds.NO_WHAT, "log of a new object", () -> fresh.log(0, 4));
    }

    private void seed() {
        b.says(50, "SEED: what it was.");
        DreamFort x = new DreamFort();
        int was = 1;
        for (int seed : new int[] {0, -1, Integer.MIN_VALUE, Integer.MAX_VALUE, 1}) {
            b.is("seed(" + seed + ")", x.seed(seed), was);
            was = seed;
        }
        b.is("no act", x.count(9), 0);
    }

    private void undone() {
        b.says(Bounds.TERMS, "UNDONE: the latest ACT not undone yet (12 are remembered; NIGHTS of one call are one): all is as ahead of it (but for"
                + " the TAPE, fault(), THE IMAGE).");
        // dreams in vain go on night by night, so that the log is full soon and its rows go round
        DreamFort x = Check.made("prisoner years 7 marks ab;prisoner years 9 marks cd;sleeper sleep 20;sleeper sleep 100;told 0 0 ab;told 1 1 c");
        x.image();
        String[] seen = new String[14];
        for (int i = 0; i < 14; i++) {
            seen[i] = Bounds.seen(x);
            b.is("acts", x.count(9), Math.min(i, 12));
            x.nights(i + 1);
        }
        b.is("14 acts: 12 are remembered", x.count(9), 12);
        Check.put(x, "wrong");
        b.refusesTape(x, Bounds.NO_NUMBER, "a wrong text", x::law);
        Check.put(x, "night 5");
        x.seed(4711);
        for (int i = 13; i >= 2; i--) {
            b.is("undo", x.undo(), true);
            b.same("as ahead of " + i, withoutActs(Bounds.seen(x)), withoutActs(seen[i]));
            b.is("acts left", x.count(9), i - 2);
        }
        b.is("no 13th", x.undo(), false);
        b.is("the tape stays", Bounds.tapeOf(x), 7);
        b.is("fault stays", x.fault(), 0);
        b.is("the image stays", x.back(), true);
        b.same("as in the image", Bounds.seen(x), seen[0]);
        b.says(51, "UNDONE: whether there was one.");
        b.is("none", x.undo(), false);
        x.wake(0);
        b.is("one", x.undo(), true);
        b.is("none any more", x.undo(), false);
        x.wake(0);
        x.strict(3);
        x.undo();
        x.strict(4);
        x.undo();
        b.is("behind an act undone and another", x.awake() * 10 + x.count(5), 12);
        b.is("the first of them", x.undo(), true);
        b.is("not awake", x.awake(), 0);
    }

    /** What was seen but for how many acts can be undone: the tenth number. */
    private static String withoutActs(String seen) {
        String[] parts = seen.split(" ", 11);
        parts[9] = "?";
        return String.join(" ", parts);
    }

    private void noneRemembered() {
        b.says(Bounds.TERMS, "A text, going back: none are remembered.");
        DreamFort x = open();
        x.strict(3);
        x.fortress();
        b.is("an empty text of the fortress", x.undo(), false);
        x.strict(4);
        x.law();
        b.is("an empty law", x.undo(), false);
        x.strict(5);
        x.image();
        b.is("an image takes none away", x.count(9), 1);
        x.strict(6);
        x.back();
        b.is("going back", x.undo(), false);
        b.is("nor those ahead of the image", x.count(5), 5);
        x.strict(6);
        Check.put(x, "x");
        b.refusesTape(x, Bounds.NO_NUMBER, "a wrong text of the fortress", x::fortress);
        Check.put(x, "x");
        b.refusesTape(x, Bounds.NO_NUMBER, "a wrong law", x::law);
        Check.putRows(x, 0, 1);
        x.sworn();
        b.is("neither wrong texts nor rows take one away", x.undo(), true);
        b.is("undone", x.count(5), 5);
    }

    private void image() {
        b.says(Bounds.TERMS, "THE IMAGE (one) of all may be kept, and gone back to (but for the TAPE, fault() and THE IMAGE itself).");
        DreamFort x = Check.made("prisoner years 7 marks ab;sleeper sleep 100;told 0 0 ab", "pull 5;fade");
        x.nights(1);
        x.seed(1234);
        x.image();
        String kept = Bounds.seen(x);
        x.retake(0);
        x.nights(5);
        x.cheese(0, 3);
        x.meet(0, 0);
        x.strict(6);
        x.wake(0);
        Check.put(x, BoundsOfTexts.times(5, "prisoner years 1 marks c") + ";" + BoundsOfTexts.times(5, "sleeper sleep 3 awake") + ";night 7");
        x.fortress();
        x.law();
        Check.put(x, "pull 1;?");
        b.refusesTape(x, Bounds.NO_NUMBER, "a wrong law", x::law);
        Check.put(x, "night 9");
        b.is("back", x.back(), true);
        b.same("all but the acts", withoutActs(Bounds.seen(x)), withoutActs(kept));
        b.is("the law", x.count(3), 2);
        b.is("the tape stays", Bounds.tapeOf(x), 7);
        b.is("fault stays", x.fault(), 7);
        x.fortress();
        x.retake(0);
        b.is("back once more: the image stays", x.back(), true);
        b.same("all but the acts, once more", withoutActs(Bounds.seen(x)), withoutActs(kept));
        b.says(52, "THE IMAGE is kept.");
        x.strict(4);
        x.image();
        x.strict(5);
        x.back();
        b.is("the latest alone", x.count(5), 4);
        b.says(53, "One goes back to THE IMAGE: true; false, and nothing happens, if none was kept.");
        DreamFort y = open();
        y.strict(3);
        String before = Bounds.seen(y);
        b.is("none was kept", y.back(), false);
        b.same("nothing happens", Bounds.seen(y), before);
        b.is("the act is there still", y.undo(), true);
        DreamFort empty = new DreamFort();
        empty.image();
        Check.put(empty, "prisoner years 1;sleeper sleep 1");
        empty.fortress();
        empty.law();
        b.is("back to a new object", empty.back(), true);
        b.same("as a new one", Bounds.seen(empty), Bounds.seen(new DreamFort()));
    }

    private void count() {
        b.says(54, "0 PRISONERS, 1 SLEEPERS, 2 texts of THE FORTRESS, 3 LINES of THE LAW (NONE without one), 4 NIGHT, 5 STRICT, 6 YEARS of all OUT"
                + " together, 7 MARKS TOLD all together, 8 rows of THE LOG, 9 acts that can be UNDONE.");
        DreamFort x = open();
        int[] first = {3, 2, 1, -1, 0, 2, 0, 4, 0, 0};
        for (int what = 0; what < 10; what++) {
            b.is("count(" + what + ")", x.count(what), first[what]);
        }
        x.law();
        x.nights(3);
        x.tell(0, 2, 2);
        x.strict(4);
        int[] then = {3, 2, 1, 0, 3, 4, 37, 5, 2, 3};
        for (int what = 0; what < 10; what++) {
            b.is("count(" + what + ") then", x.count(what), then[what]);
        }
        x.retake(0);
        b.is("years of those out", x.count(6), 30);
        b.says(54, "NONE for another what.");
        for (int what : new int[] {-1, 10, Integer.MIN_VALUE, Integer.MAX_VALUE}) {
            b.is("count(" + what + ")", x.count(what), -1);
        }
    }
}
