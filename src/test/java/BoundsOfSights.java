/** The Terms of what is seen of one and of all, promises 7 to 10, 30 to 32 and 36 to 44, and what is said of exceptions. */
final class BoundsOfSights {
    private static final int LEAST = Integer.MIN_VALUE;
    private static final int MOST = Integer.MAX_VALUE;

    private final Bounds b;

    BoundsOfSights(Bounds bounds) {
        b = bounds;
    }

    void run() {
        prisoner();
        sleeper();
        told();
        enemy();
        striking();
        like();
        mistaken();
        twice();
        vain();
        dreams();
        gossip();
        friends();
        rests();
        longest();
        out();
        awake();
        met();
        twins();
        ofAMark();
        share();
        sound();
        fullHouse();
        fullHouseOut();
        toldFirst();
        changesNothing();
        noSuch();
        noNumber();
        cannotBe();
        emptySets();
        the512thCall();
    }

    private static DreamFort house() {
        return Check.made("prisoner years 30 marks abc;prisoner years 12 marks bcd;sleeper sleep 60 cheese 2;sleeper sleep 40 met 0 awake;"
                + "told 0 0 ab;told 1 0 abc;told 1 1 b");
    }

    // ---- one prisoner, one sleeper

    private void prisoner() {
        b.says(7, "Of a PRISONER what 0 YEARS, 1 MARKS, as bits, 2 1 if OUT, 3 ODDS, 4 STRIKING, 5 MISTAKEN (NONE), 6 DREAMS, as bits, 7 ENEMY (NONE),"
                + " 8 its WORTH.");
        DreamFort x = house();
        int[][] due = {{30, 7, 0, 7000, 1, 1, 3, 0, 7000}, {12, 14, 0, 0, 1, 0, 0, 0, 0}};
        for (int p = 0; p < 2; p++) {
            for (int what = 0; what < 9; what++) {
                b.is("prisoner(" + p + ", " + what + ")", x.prisoner(p, what), due[p][what]);
            }
        }
        x.nights(1);
        int[] out = {30, 7, 1, 0, 1, 1, 0, 0, 0};
        for (int what = 0; what < 9; what++) {
            b.is("out " + what, x.prisoner(0, what), out[what]);
        }
        DreamFort alone = Check.made("prisoner years 5 marks ab");
        int[] none = {5, 3, 0, 0, 2, -1, 0, -1, 0};
        for (int what = 0; what < 9; what++) {
            b.is("alone " + what, alone.prisoner(0, what), none[what]);
        }
        b.refusesEach(x, Bounds.NO_SUCH, "prisoner", n -> () -> x.prisoner(n, 0), -1, 2, 6, LEAST, MOST);
        b.says(7, "NoSuchElementException: another what.");
        b.refusesEach(x, Bounds.NO_WHAT, "prisoner", n -> () -> x.prisoner(0, n), -1, 9, LEAST, MOST);
        b.refuses(x, Bounds.NO_SUCH, "both, what is told first", () -> x.prisoner(2, 9));
    }

    private void sleeper() {
        b.says(8, "Of a SLEEPER what 0 SLEEP, 1 CHEESE, 2 1 if AWAKE, 3 whom it MET, as bits, 4 CHANCE, 5 DREAM (NONE), 6 1 if that is GOOD, 7 SHARE.");
        DreamFort x = house();
        int[][] due = {{60, 2, 0, 0, 70, 0, 1, 33}, {40, 0, 1, 1, 0, 0, 0, 66}};
        for (int s = 0; s < 2; s++) {
            for (int what = 0; what < 8; what++) {
                b.is("sleeper(" + s + ", " + what + ")", x.sleeper(s, what), due[s][what]);
            }
        }
        DreamFort alone = Check.made("sleeper sleep 5");
        int[] none = {5, 0, 0, 0, 5, -1, 0, 0};
        for (int what = 0; what < 8; what++) {
            b.is("alone " + what, alone.sleeper(0, what), none[what]);
        }
        b.refusesEach(x, Bounds.NO_SUCH, "sleeper", n -> () -> x.sleeper(n, 0), -1, 2, 6, LEAST, MOST);
        b.says(8, "NoSuchElementException: another what.");
        b.refusesEach(x, Bounds.NO_WHAT, "sleeper", n -> () -> x.sleeper(0, n), -1, 8, LEAST, MOST);
        b.refuses(x, Bounds.NO_SUCH, "both, what is told first", () -> x.sleeper(2, 8));
    }

    private void told() {
        b.says(9, "MARKS of a PRISONER that a SLEEPER was TOLD, as bits.");
        DreamFort x = house();
        b.is("two", x.told(0, 0), 3);
        b.is("none", x.told(0, 1), 0);
        b.is("three", x.told(1, 0), 7);
        b.is("one", x.told(1, 1), 2);
        b.refusesEach(x, Bounds.NO_SUCH, "the sleeper", n -> () -> x.told(n, 0), -1, 2, 6, LEAST, MOST);
        b.refusesEach(x, Bounds.NO_SUCH, "the prisoner", n -> () -> x.told(0, n), -1, 2, 6, LEAST, MOST);
        DreamFort full = Check.made(BoundsOfTexts.times(6, "prisoner years 1 marks abcdef") + ";" + BoundsOfTexts.times(6, "sleeper sleep 0"));
        for (int m = 0; m < 6; m++) {
            full.tell(5, 5, m);
        }
        b.is("the sixth of the sixth, all", full.told(5, 5), 63);
        b.is("his neighbours, nothing", full.told(5, 4) + full.told(4, 5), 0);
    }

    private void enemy() {
        b.says(Bounds.TERMS, "ENEMY of a PRISONER: the SLEEPER by whose being AWAKE ODDS of him are the least (of several the least; none without"
                + " SLEEPERS);");
        DreamFort x = Check.made("prisoner years 1 marks ab;prisoner years 1 marks ab;sleeper sleep 20;sleeper sleep 60;sleeper sleep 60;told 0 0 ab;"
                + "told 1 0 ab;told 2 0 ab");
        b.is("the soundest, of several the least", x.prisoner(0, 7), 1);
        b.is("of one nobody dreams of, the least", x.prisoner(1, 7), 0);
        b.is("without sleepers", Check.made("prisoner years 1").prisoner(0, 7), -1);
        b.says(Bounds.TERMS, "WORTH of it: by how much they are less so than now (below 0, if they are more; 0 without SLEEPERS).");
        // left 8000, 3200, 1280; without sleeper 1: 8000, 3200
        b.is("worth", x.prisoner(0, 8), 1920);
        b.is("of one nobody dreams of", x.prisoner(1, 8), 0);
        b.is("without sleepers", Check.made("prisoner years 1").prisoner(0, 8), 0);
        x.wake(1);
        b.is("one is awake: the other one", x.prisoner(0, 7), 2);
        b.is("its worth", x.prisoner(0, 8), 4800);
        x.wake(0);
        x.wake(2);
        b.is("all are awake: the least", x.prisoner(0, 7), 0);
        b.is("its worth is nothing", x.prisoner(0, 8), 0);
        // when awake, sleeper 0 would dream of the other one, but not tonight: nothing is won by it
        DreamFort law = Check.made("prisoner years 1 marks ab;prisoner years 1 marks ab;sleeper sleep 50;told 0 0 ab;told 0 1 ab",
                "pull 9 if awake and prisoner > 0");
        b.is("by a law of those awake: worth of the one", law.prisoner(0, 8), 5000);
        b.is("worth of the other", law.prisoner(1, 8), 0);
    }

    private void striking() {
        b.says(Bounds.TERMS, "STRIKING of a PRISONER: how many of his MARKS no other one, not OUT, has.");
        DreamFort x = Check.made("prisoner years 1 marks abcdef;prisoner years 1 marks ab;prisoner years 1 marks b;prisoner years 1;sleeper sleep 100;"
                + "told 0 1 ab");
        int[] due = {4, 0, 0, 0};
        for (int p = 0; p < 4; p++) {
            b.is("striking of " + p, x.prisoner(p, 4), due[p]);
        }
        x.nights(1);
        b.is("beside one out", x.prisoner(0, 4), 5);
        b.is("of one out", x.prisoner(1, 4), 0);
        b.is("all six", Check.made("prisoner years 1 marks abcdef;prisoner years 1").prisoner(0, 4), 6);
    }

    private void like() {
        b.says(Bounds.TERMS, "LIKE of two: MARKS that both have, as bits.");
        DreamFort x = Check.made("prisoner years 1 marks abcdef;prisoner years 1 marks bf;prisoner years 1;prisoner years 1 marks abcdef;"
                + "sleeper sleep 100;told 0 0 ab");
        b.is("two marks", x.like(0, 1), 34);
        b.is("the other way", x.like(1, 0), 34);
        b.is("none", x.like(0, 2), 0);
        b.is("all", x.like(0, 3), 63);
        x.nights(1);
        b.is("one is out", x.like(0, 1), 34);
        b.says(30, "LIKE, as bits.");
        b.refusesEach(x, Bounds.NO_SUCH, "the one", n -> () -> x.like(n, 0), -1, 4, 6, LEAST, MOST);
        b.refusesEach(x, Bounds.NO_SUCH, "the other", n -> () -> x.like(0, n), -1, 4, 6, LEAST, MOST);
        b.says(30, "IllegalArgumentException: both are one.");
        b.refusesEach(x, Bounds.NO_NUMBER, "like", n -> () -> x.like(n, n), 0, 1, 2, 3);
        b.refusesEach(x, Bounds.NO_SUCH, "both are one that there is not", n -> () -> x.like(n, n), -1, 4, LEAST, MOST);
    }

    private void mistaken() {
        b.says(Bounds.TERMS, "MISTAKEN of a PRISONER: the other one, not OUT, with whom he has the most MARKS in common (of several the least; none without"
                + " another one).");
        DreamFort x = Check.made("prisoner years 1 marks abc;prisoner years 1 marks ab;prisoner years 1 marks bc;prisoner years 1 marks f;"
                + "sleeper sleep 100;told 0 1 ab");
        int[] due = {1, 0, 0, 0};
        for (int p = 0; p < 4; p++) {
            b.is("mistaken of " + p, x.prisoner(p, 5), due[p]);
        }
        x.nights(1);
        b.is("not for one out", x.prisoner(0, 5), 2);
        b.is("of one out", x.prisoner(1, 5), 0);
        DreamFort two = Check.made("prisoner years 1 marks ab;prisoner years 1 marks cd;sleeper sleep 100;told 0 0 ab");
        b.is("nothing in common", two.prisoner(0, 5), 1);
        two.nights(1);
        b.is("the other one is out", two.prisoner(1, 5), -1);
        b.is("no other one", Check.made("prisoner years 1 marks ab").prisoner(0, 5), -1);
    }

    // ---- what is seen of all

    private void twice() {
        b.says(Bounds.TERMS, "TWICE: PRISONERS who are the DREAM of two SLEEPERS at least, as bits.");
        DreamFort x = Check.made("prisoner years 1 marks ab;prisoner years 1 marks ab;" + BoundsOfTexts.times(5, "sleeper sleep 100")
                + ";told 0 0 a;told 1 1 ab");
        b.is("one dream each", x.twice(), 0);
        x.tell(2, 1, 0);
        b.is("two of one", x.twice(), 2);
        x.tell(3, 0, 0);
        b.is("two of both", x.twice(), 3);
        x.tell(4, 0, 0);
        b.is("three of one", x.twice(), 3);
        b.says(31, "TWICE, as bits.");
        x.nights(1);
        b.is("one is out", x.twice(), 1);
    }

    private void vain() {
        b.says(Bounds.TERMS, "VAIN: SLEEPERS whose DREAM is not GOOD, as bits.");
        DreamFort x = Check.made("prisoner years 1 marks ab;sleeper sleep 0;sleeper sleep 0 met 0;sleeper sleep 0;sleeper sleep 0;told 0 0 ab;"
                + "told 1 0 ab;told 2 0 a");
        b.is("one that met him, one told too little; not one without a dream", x.vain(), 6);
        x.strict(3);
        b.is("all that have one", x.vain(), 7);
        b.says(32, "VAIN, as bits.");
        DreamFort six = Check.made("prisoner years 1 marks ab;" + BoundsOfTexts.times(6, "sleeper sleep 0") + ";told 5 0 a");
        b.is("the sixth", six.vain(), 32);
        six.strict(1);
        b.is("none", six.vain(), 0);
    }

    private void dreams() {
        b.says(Bounds.TERMS, "DREAMS of a PRISONER: SLEEPERS whose DREAM he is, as bits.");
        DreamFort x = Check.made("prisoner years 1 marks ab;prisoner years 1 marks ab;" + BoundsOfTexts.times(6, "sleeper sleep 100")
                + ";told 0 0 a;told 2 1 ab;told 5 0 ab");
        b.is("the first and the sixth, good or not", x.prisoner(0, 6), 33);
        b.is("the third", x.prisoner(1, 6), 4);
        x.nights(1);
        b.is("none of one out", x.prisoner(1, 6), 0);
    }

    private void gossip() {
        b.says(Bounds.TERMS, "GOSSIP: the SLEEPER TOLD the most MARKS of all together (of several the least; none, if it is none).");
        DreamFort x = Check.made("prisoner years 1 marks abc;prisoner years 1 marks abc;sleeper sleep 100;sleeper sleep 0;sleeper sleep 0");
        b.is("none was told", x.gossip(), -1);
        x.tell(2, 0, 0);
        b.is("the only one", x.gossip(), 2);
        x.tell(1, 1, 2);
        b.is("of several the least", x.gossip(), 1);
        x.tell(2, 1, 1);
        b.is("of all together", x.gossip(), 2);
        b.says(36, "GOSSIP; NONE.");
        x.forget(2);
        x.forget(1);
        b.is("all is forgotten", x.gossip(), -1);
        b.is("without sleepers", new DreamFort().gossip(), -1);
        x.tell(0, 0, 0);
        x.tell(0, 0, 1);
        x.nights(1);
        b.is("he is out, but was told of", x.gossip() * 10 + x.out(), 1);
    }

    private void friends() {
        b.says(Bounds.TERMS, "FRIENDS of two SLEEPERS: PRISONERS whom both MET, as bits.");
        DreamFort x = Check.made(BoundsOfTexts.times(6, "prisoner years 1") + ";sleeper sleep 0 met 5;sleeper sleep 0 met 5;sleeper sleep 0");
        b.is("the sixth", x.friends(0, 1), 32);
        b.is("none", x.friends(0, 2), 0);
        x.meet(0, 0);
        x.meet(1, 1);
        b.is("the sixth alone", x.friends(1, 0), 32);
        x.meet(1, 0);
        b.is("two", x.friends(1, 0), 33);
        b.says(37, "FRIENDS, as bits.");
        b.refusesEach(x, Bounds.NO_SUCH, "the one", n -> () -> x.friends(n, 0), -1, 3, 6, LEAST, MOST);
        b.refusesEach(x, Bounds.NO_SUCH, "the other", n -> () -> x.friends(0, n), -1, 3, 6, LEAST, MOST);
        b.says(37, "IllegalArgumentException: both are one.");
        b.refusesEach(x, Bounds.NO_NUMBER, "friends", n -> () -> x.friends(n, n), 0, 1, 2);
        b.refusesEach(x, Bounds.NO_SUCH, "both are one that there is not", n -> () -> x.friends(n, n), -1, 3, LEAST, MOST);
    }

    private void rests() {
        b.says(Bounds.TERMS, "RESTS of a SLEEPER and a PRISONER: the teller tells (0) or not (1), unseen, the enemy wakes (0) or not (1): told and awake the"
                + " teller has 0 less 2, the enemy 1; told and asleep he has CHANCE by 10, rounded down, the enemy 0 less YEARS by 10, rounded down;"
                + " untold and awake he has nothing, the enemy 0 less 1; untold and asleep both have nothing, but the teller CHANCE by 20, rounded"
                + " down, if the DREAM is GOOD and of that one: choices (2 times the teller's and the enemy's) from which neither would have more by"
                + " its other one: as bits.");
        // who is awake is never told; who is asleep is woken if told: untold and asleep (3) rests, unless telling is worth more
        int[][] due = {{0, 8}, {9, 8}, {10, 0}, {19, 0}, {20, 0}, {100, 0}};
        for (int[] row : due) {
            for (int years : new int[] {0, 9, 10, 99}) {
                DreamFort x = Check.made("prisoner years " + years + " marks ab;prisoner years 1;sleeper sleep " + row[0]);
                b.is("chance " + row[0] + ", years " + years, x.rests(0, 0), row[1]);
                x.tell(0, 0, 0);
                b.is("a dream in vain, chance " + row[0], x.rests(0, 0), row[1]);
                x.tell(0, 0, 1);
                b.is("a good dream, chance " + row[0], x.rests(0, 0), row[1]);
                b.is("a good dream of another, chance " + row[0], x.rests(0, 1), row[1]);
            }
        }
        b.says(38, "RESTS, as bits.");
        DreamFort x = Check.made("prisoner years 1;sleeper sleep 100 awake;sleeper sleep 100");
        b.is("one awake", x.rests(0, 0), 8);
        b.is("one asleep", x.rests(1, 0), 0);
        b.refusesEach(x, Bounds.NO_SUCH, "the sleeper", n -> () -> x.rests(n, 0), -1, 2, 6, LEAST, MOST);
        b.refusesEach(x, Bounds.NO_SUCH, "the prisoner", n -> () -> x.rests(0, n), -1, 1, 6, LEAST, MOST);
    }

    private void longest() {
        b.says(Bounds.TERMS, "LONGEST: the PRISONER not OUT of the most YEARS (of several the least; none).");
        DreamFort x = Check.made("prisoner years 3 marks ab;prisoner years 9 marks ab;prisoner years 9;sleeper sleep 100;told 0 1 ab");
        b.is("of several the least", x.longest(), 1);
        x.nights(1);
        b.is("not one out", x.longest(), 2);
        b.says(39, "LONGEST; NONE.");
        b.is("of no years", Check.made("prisoner years 0;prisoner years 0").longest(), 0);
        b.is("without prisoners", new DreamFort().longest(), -1);
        DreamFort all = Check.made("prisoner years 3 marks ab;sleeper sleep 100;told 0 0 ab");
        all.nights(1);
        b.is("all are out", all.longest(), -1);
    }

    private void out() {
        b.says(Bounds.TERMS, "OUT ones, as bits.");
        DreamFort x = Check.made(BoundsOfTexts.times(6, "prisoner years 1 marks ab") + ";sleeper sleep 100;sleeper sleep 100;told 0 5 ab;told 1 0 ab");
        b.is("none", x.out(), 0);
        x.nights(1);
        b.is("the first and the sixth", x.out(), 33);
        b.says(40, "OUT ones, as bits.");
        x.retake(0);
        b.is("the sixth", x.out(), 32);
    }

    private void awake() {
        b.says(Bounds.TERMS, "AWAKE ones, as bits.");
        DreamFort x = Check.made(BoundsOfTexts.times(6, "sleeper sleep 1"));
        b.is("none", x.awake(), 0);
        x.wake(5);
        b.is("the sixth", x.awake(), 32);
        b.says(41, "AWAKE ones, as bits.");
        x.wake(0);
        b.is("the first, too", x.awake(), 33);
    }

    private void met() {
        b.says(Bounds.TERMS, "MET of a SLEEPER, as bits.");
        DreamFort x = Check.made(BoundsOfTexts.times(6, "prisoner years 1") + ";sleeper sleep 0 met 5;sleeper sleep 0");
        b.is("the sixth", x.sleeper(0, 3), 32);
        b.is("none", x.sleeper(1, 3), 0);
        for (int p = 0; p < 6; p++) {
            x.meet(1, p);
        }
        b.is("all", x.sleeper(1, 3), 63);
    }

    private void twins() {
        b.says(Bounds.TERMS, "TWINS: pairs of SLEEPERS of like SLEEP and CHEESE: how many.");
        b.is("six alike", Check.made(BoundsOfTexts.times(6, "sleeper sleep 7 cheese 3")).twins(), 15);
        b.is("sleep alone", Check.made("sleeper sleep 7 cheese 3;sleeper sleep 7 cheese 4").twins(), 0);
        b.is("cheese alone", Check.made("sleeper sleep 7 cheese 3;sleeper sleep 8 cheese 3").twins(), 0);
        b.is("a like chance is not it", Check.made("sleeper sleep 5 cheese 1;sleeper sleep 10 cheese 0").twins(), 0);
        b.says(42, "TWINS.");
        b.is("none", new DreamFort().twins(), 0);
        b.is("one alone", Check.made("sleeper sleep 7").twins(), 0);
        DreamFort x = Check.made("sleeper sleep 7;sleeper sleep 7 awake;sleeper sleep 9;sleeper sleep 9");
        b.is("two pairs, awake or not", x.twins(), 2);
        x.cheese(0, 1);
        b.is("one pair", x.twins(), 1);
    }

    private void ofAMark() {
        b.says(Bounds.TERMS, "OF A MARK: PRISONERS who have it, as bits.");
        DreamFort x = Check.made("prisoner years 1 marks a;prisoner years 1 marks af;prisoner years 1;prisoner years 1;prisoner years 1;"
                + "prisoner years 1 marks fb;sleeper sleep 100;told 0 1 af");
        int[] due = {3, 32, 0, 0, 0, 34};
        for (int m = 0; m < 6; m++) {
            b.is("mark " + m, x.mark(m), due[m]);
        }
        x.nights(1);
        b.is("out or not", x.mark(0), 3);
        b.says(43, "OF A MARK, as bits.");
        b.refusesEach(x, Bounds.NO_SUCH, "mark", n -> () -> x.mark(n), -1, 6, LEAST, MOST);
    }

    private void share() {
        b.says(Bounds.TERMS, "SHARE of a SLEEPER of MARKS TOLD all together, in hundredths, rounded down (0 without).");
        DreamFort x = Check.made(BoundsOfTexts.times(6, "prisoner years 1 marks abcdef") + ";" + BoundsOfTexts.times(4, "sleeper sleep 0"));
        b.is("nothing was told", x.sleeper(0, 7), 0);
        x.tell(0, 0, 0);
        b.is("all of it", x.sleeper(0, 7), 100);
        b.is("none of it", x.sleeper(1, 7), 0);
        x.tell(1, 0, 0);
        x.tell(1, 5, 5);
        b.is("one of three", x.sleeper(0, 7), 33);
        b.is("two of three", x.sleeper(1, 7), 66);
        for (int s = 1; s < 4; s++) {
            for (int i = 0; i < 36; i++) {
                x.tell(s, i / 6, i % 6);
            }
        }
        b.is("one of 109", x.sleeper(0, 7), 0);
        b.is("36 of 109", x.sleeper(3, 7), 33);
    }

    private void sound() {
        b.says(Bounds.TERMS, "SOUND: the SLEEPER of the greatest CHANCE (of several the least; none).");
        DreamFort x = Check.made("sleeper sleep 5;sleeper sleep 20;sleeper sleep 10 cheese 2;sleeper sleep 100 awake");
        b.is("of several the least", x.sound(), 1);
        x.cheese(2, 1);
        b.is("by cheese", x.sound(), 2);
        x.nights(1);
        b.is("not awake any more", x.sound(), 3);
        b.says(44, "SOUND; NONE.");
        b.is("without sleepers", new DreamFort().sound(), -1);
        b.is("all of chance 0", Check.made("sleeper sleep 0;sleeper sleep 9 awake").sound(), 0);
    }

    // ---- a full house

    /** Six prisoners with all marks, six sleepers, each told all of the one of its number: each is that one's good dream. */
    private static DreamFort full() {
        DreamFort x = Check.made("prisoner years 9 marks abcdef;prisoner years 19 marks abcdef;prisoner years 29 marks abcdef;"
                + "prisoner years 39 marks abcdef;prisoner years 49 marks abcdef;prisoner years 59 marks abcdef;"
                + BoundsOfTexts.times(6, "sleeper sleep 100") + ";strict 6");
        Check.put(x, "told 0 0 abcdef;told 1 1 abcdef;told 2 2 abcdef;told 3 3 abcdef;told 4 4 abcdef;told 5 5 abcdef");
        x.fortress();
        return x;
    }

    private void fullHouse() {
        b.says(Bounds.TERMS, "PRISONERS (at most 6, numbered from 0 on)");
        DreamFort x = full();
        int[] beds = {0, 0, 1, 1, 1, 2};
        for (int i = 0; i < 6; i++) {
            b.is("odds of " + i, x.prisoner(i, 3), 10000);
            b.is("striking of " + i, x.prisoner(i, 4), 0);
            b.is("mistaken of " + i, x.prisoner(i, 5), i == 0 ? 1 : 0);
            b.is("dreams of " + i, x.prisoner(i, 6), 1 << i);
            b.is("enemy of " + i, x.prisoner(i, 7), i);
            b.is("worth of " + i, x.prisoner(i, 8), 10000);
            b.is("dream of " + i, x.sleeper(i, 5), i);
            b.is("share of " + i, x.sleeper(i, 7), 16);
            b.is("outs of " + i, x.outs(i, 0), i);
            b.is("couples of " + i, x.couples(i), -1);
            b.is("beds of " + i, x.beds(i, 5), beds[i]);
            b.is("mark " + i, x.mark(i), 63);
            for (int s = 0; s < 6; s++) {
                b.is("need of " + s + " and " + i, x.need(s, i), s == i ? 0 : i < s ? 63 : -1);
            }
        }
        b.is("cover of all", x.cover(0, 6), 30);
        b.is("whom of all", x.whom(0, 6), 63);
        b.is("outs", x.outs(-1, 0), 204);
        b.is("couples", x.couples(-1), 0);
        b.is("beds of all", x.beds(0, 99) + x.beds(1, 99) + x.beds(2, 99) + x.beds(3, 99) + x.beds(4, 99) + x.beds(5, 99), 99);
        b.is("sets of none", x.twice() + x.vain() + x.never() + x.out() + x.awake(), 0);
        b.is("gossip", x.gossip(), 0);
        b.is("longest", x.longest(), 5);
        b.is("sound", x.sound(), 0);
        b.is("twins", x.twins(), 15);
        b.is("sworn", x.sworn(), 63);
        b.is("likely", x.likely(), 0);
        b.is("ask", x.ask(), 0);
        Check.putRows(x, 5, 0);
        b.is("likely by a wrong row", x.likely(), 0);
        Check.putRows(x, 5, 1, 5, 1);
        b.is("sworn by right ones", x.sworn(), 63);
        b.is("rumour", x.rumour(false), 36);
        b.is("first", x.rumour(true), 0);
        b.is("next", x.next(), 0);
        b.is("trial", x.trial(60, false), 63);
        b.is("its dreams", x.trial(60, true), 6);
        b.is("span", x.span(60, false), 204);
    }

    private void fullHouseOut() {
        b.says(Bounds.TERMS, "SLEEPERS (at most 6, numbered from 0 on)");
        DreamFort x = full();
        b.is("all get out", x.nights(1), 6);
        b.is("out", x.out(), 63);
        b.is("years", x.count(6), 204);
        for (int i = 0; i < 6; i++) {
            b.is("rows of " + i, x.led(i, false), 1);
            b.is("the row " + i + " ago", x.log(i, 1), 5 - i);
            b.is("mistaken of " + i, x.prisoner(i, 5), -1);
            b.is("striking of " + i, x.prisoner(i, 4), 6);
            b.is("beds of " + i, x.beds(i, 99), 0);
            b.is("outs of " + i, x.outs(i, 36), -1);
            b.is("dream of " + i, x.sleeper(i, 5), -1);
        }
        b.is("outs", x.outs(-1, 36), 0);
        b.is("longest", x.longest(), -1);
        b.is("never", x.never(), 0);
        b.is("vain", x.vain(), 0);
        b.is("gossip", x.gossip(), 0);
        b.is("sworn", x.sworn(), 63);
        b.is("rumour", x.rumour(false), 36);
        for (int i = 6; i >= 1; i--) {
            b.is("taken back", x.retake(i - 1), i - 1);
        }
        b.is("all get out once more", x.nights(60), 6);
    }

    // ---- exceptions

    private void toldFirst() {
        b.says(Bounds.TERMS, "Of several exceptions the one told first is thrown;");
        DreamFort x = house();
        b.refuses(x, Bounds.NO_SUCH, "prisoner", () -> x.prisoner(2, 9));
        b.refuses(x, Bounds.NO_SUCH, "sleeper", () -> x.sleeper(2, 8));
        b.refuses(x, Bounds.NO_SUCH, "tell, the mark", () -> x.tell(0, 0, 6));
        b.refuses(x, Bounds.NO_SUCH, "tell, the sleeper", () -> x.tell(2, 0, 5));
        b.refuses(x, Bounds.NO_SUCH, "tell, the prisoner", () -> x.tell(0, 2, 5));
        b.refuses(x, Bounds.NO_SUCH, "cheese", () -> x.cheese(2, 0));
        b.refuses(x, Bounds.NO_SUCH, "within", () -> x.within(2, 61));
        b.refuses(x, Bounds.NO_SUCH, "soon", () -> x.soon(2, 10001));
        b.refuses(x, Bounds.NO_SUCH, "cover", () -> x.cover(2, 7));
        b.refuses(x, Bounds.NO_SUCH, "whom", () -> x.whom(2, 7));
        b.refuses(x, Bounds.NO_SUCH, "outs", () -> x.outs(2, 37));
        b.refuses(x, Bounds.NO_SUCH, "like", () -> x.like(2, 2));
        b.refuses(x, Bounds.NO_SUCH, "beds", () -> x.beds(2, 100));
        b.refuses(x, Bounds.NO_SUCH, "friends", () -> x.friends(2, 2));
        b.refuses(x, Bounds.NO_SUCH, "ahead", () -> x.ahead(2, 0, 61));
        b.refuses(x, Bounds.NO_SUCH, "ahead, the prisoner", () -> x.ahead(0, 2, 61));
    }

    private void changesNothing() {
        b.says(Bounds.TERMS, "a call that throws changes nothing but the TAPE, where it is used up.");
        DreamFort x = house();
        x.nights(2);
        x.strict(3);
        x.image();
        Check.put(x, "the tape");
        b.refuses(x, Bounds.NO_NUMBER, "nights", () -> x.nights(61));
        b.refuses(x, Bounds.CANNOT_BE, "tell", () -> x.tell(0, 0, 5));
        b.refuses(x, Bounds.NO_NUMBER, "cheese", () -> x.cheese(0, 10));
        b.refuses(x, Bounds.NO_NUMBER, "strict", () -> x.strict(7));
        b.refuses(x, Bounds.CANNOT_BE, "retake", () -> x.retake(1));
        b.is("the tape stays where it is not used", Bounds.tapeOf(x), 8);
        b.refusesTape(x, Bounds.NO_NUMBER, "fortress", x::fortress);
        Check.put(x, "the tape");
        b.refusesTape(x, Bounds.NO_NUMBER, "law", x::law);
        Check.put(x, "the tape");
        b.refusesTape(x, Bounds.NO_NUMBER, "sworn", x::sworn);
        Check.put(x, "the tape");
        b.refusesTape(x, Bounds.NO_NUMBER, "likely", x::likely);
        Check.put(x, "the tape");
        b.refusesTape(x, Bounds.NO_NUMBER, "ask", x::ask);
        Check.put(x, "the tape");
        b.refusesTape(x, Bounds.NO_NUMBER, "rumour", () -> x.rumour(true));
        Check.put(x, "the tape");
        b.refusesTape(x, Bounds.NO_NUMBER, "next", x::next);
        b.is("acts are remembered still", x.undo() && x.undo(), true);
        b.is("no more than there were", x.undo(), false);
        b.is("the image is kept still", x.back(), true);
        b.is("as it was", x.count(5), 3);
    }

    private void noSuch() {
        b.says(Bounds.TERMS, "IndexOutOfBoundsException: there is no such PRISONER, SLEEPER, MARK.");
        // more sleepers than prisoners, so that one is not taken for the other
        DreamFort x = Check.made("prisoner years 1 marks ab;sleeper sleep 0;sleeper sleep 0;sleeper sleep 0");
        b.refuses(x, Bounds.NO_SUCH, "prisoner 1", () -> x.told(2, 1));
        b.is("sleeper 2", x.told(2, 0), 0);
        b.refuses(x, Bounds.NO_SUCH, "sleeper 3", () -> x.told(3, 0));
        DreamFort y = Check.made("prisoner years 1;prisoner years 1;prisoner years 1;sleeper sleep 0");
        b.refuses(y, Bounds.NO_SUCH, "sleeper 1", () -> y.pull(1, 2));
        b.is("prisoner 2", y.pull(0, 2), 0);
        b.refuses(y, Bounds.NO_SUCH, "rests", () -> y.rests(1, 2));
        b.refuses(y, Bounds.NO_SUCH, "need", () -> y.need(1, 2));
        b.refuses(y, Bounds.NO_SUCH, "meet", () -> y.meet(1, 2) ? 1 : 0);
        b.refuses(y, Bounds.NO_SUCH, "friends", () -> y.friends(0, 2));
        b.refuses(x, Bounds.NO_SUCH, "like", () -> x.like(0, 2));
        b.refuses(x, Bounds.NO_SUCH, "a mark", () -> x.mark(6));
        b.is("a mark that nobody has is one all the same", x.mark(5), 0);
    }

    private void noNumber() {
        b.says(Bounds.TERMS, "IllegalArgumentException: a number is none, or two are one.");
        DreamFort x = house();
        b.refusesEach(x, Bounds.NO_NUMBER, "nights", n -> () -> x.nights(n), 0, 61);
        b.refusesEach(x, Bounds.NO_NUMBER, "trial", n -> () -> x.trial(n, true), -1, 61);
        b.refusesEach(x, Bounds.NO_NUMBER, "span", n -> () -> x.span(n, true), -1, 61);
        b.refuses(x, Bounds.NO_NUMBER, "like", () -> x.like(1, 1));
        b.refuses(x, Bounds.NO_NUMBER, "friends", () -> x.friends(1, 1));
        b.is("two that are not one", x.like(1, 0) + x.friends(1, 0), 6);
    }

    private void cannotBe() {
        b.says(Bounds.TERMS, "IllegalStateException: it cannot be.");
        DreamFort x = house();
        b.refuses(x, Bounds.CANNOT_BE, "a mark that he does not have", () -> x.tell(0, 0, 3));
        b.refuses(x, Bounds.CANNOT_BE, "one who is not out", () -> x.retake(0));
    }

    private void emptySets() {
        b.says(Bounds.TERMS, "Sets are bits; of none they count for nothing.");
        DreamFort x = Check.made("prisoner years 1;prisoner years 1;sleeper sleep 0;sleeper sleep 0");
        b.is("sets of none", x.prisoner(0, 1) + x.prisoner(0, 6) + x.sleeper(0, 3) + x.told(0, 0) + x.like(0, 1) + x.twice() + x.vain()
                + x.friends(0, 1) + x.out() + x.awake() + x.mark(0) + x.ahead(0, 0, 60) + x.trial(60, false), 0);
        b.is("a set of both", x.never(), 3);
    }

    private void the512thCall() {
        b.says("An object is used for at most 512 calls after it has been made; what later calls answer is free.");
        DreamFort x = new DreamFort();
        for (int i = 1; i < 512; i++) {
            x.strict(1 + i % 6);
        }
        b.is("the 512th call", x.count(5), 2);
    }
}
