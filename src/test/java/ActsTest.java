/** Promises 11 to 18 and 45 to 54: acts, nights, trials, the log, acts undone, the image, counts. */
public final class ActsTest {
    private static final Check CHECK = new Check("ActsTest");

    public static void main(String[] args) {
        nights();
        draws();
        fading();
        tellings();
        cheeses();
        meetings();
        strictness();
        retaking();
        trials();
        logs();
        undoing();
        images();
        counts();
        CHECK.finish();
    }

    private static void nights() {
        DreamFort x = Check.made("prisoner years 7 marks ab;prisoner years 5 marks ab;sleeper sleep 100;sleeper sleep 100;"
                + "sleeper sleep 100 awake;told 0 0 ab;told 1 0 a;told 2 1 ab");
        CHECK.noArgument("nights(0)", () -> x.nights(0));
        CHECK.noArgument("nights(61)", () -> x.nights(61));
        CHECK.noArgument("nights(-1)", () -> x.nights(-1));
        CHECK.due("a night", x.nights(1), 1);
        CHECK.due("night 1", x.count(4), 1);
        CHECK.due("out by a good dream, though another was in vain", x.out(), 1);
        CHECK.due("two dreams", x.count(8), 2);
        CHECK.due("awake no more", x.awake(), 0);
        CHECK.due("two nights, in which the other gets out", x.nights(2), 1);
        CHECK.due("night 3", x.count(4), 3);
        CHECK.due("both out", x.out(), 3);
        CHECK.due("60 nights for nobody", x.nights(60), 0);
        CHECK.due("night 63", x.count(4), 63);
        CHECK.due("years out", x.count(6), 12);
        DreamFort y = Check.made("night 999");
        for (int i = 0; i < 151; i++) {
            y.nights(60);
        }
        CHECK.due("the last nights: 999 + 9060 are too many", y.count(4), 9999);
        // one who met him and one told too little dream in vain
        DreamFort z = Check.made("prisoner years 7 marks ab;sleeper sleep 100 met 0;sleeper sleep 100;told 0 0 ab;told 1 0 b");
        CHECK.due("a night in vain", z.nights(1), 0);
        CHECK.due("dreams in vain", z.count(8), 2);
        CHECK.due("still held", z.out(), 0);
    }

    /** From seed 1 the sequence of draws is 16838, 5758, 10113, 17515, 31051, 5627: of 100 the rests 38, 58, 13, 15, 51, 27. */
    private static void draws() {
        DreamFort x = Check.made("prisoner years 7 marks ab;sleeper sleep 38;sleeper sleep 59 met 0;sleeper sleep 13 awake;told 0 0 ab;"
                + "told 1 0 ab;told 2 0 ab");
        CHECK.due("38 is not below 38", x.nights(1), 0);
        CHECK.due("58 is below 59: one dream", x.count(8), 1);
        CHECK.due("of sleeper 1", x.log(0, 1), 1);
        int seed = 1;
        for (int i = 0; i < 3; i++) {
            seed = seed * 1103515245 + 12345;
        }
        CHECK.due("three draws, also for one awake", x.seed(1), seed);
        x.seed(seed);
        CHECK.due("15 is below 38", x.nights(1), 1);
        CHECK.due("a draw too for those who have no dream", x.nights(1), 0);
        for (int i = 0; i < 6; i++) {
            seed = seed * 1103515245 + 12345;
        }
        CHECK.due("six draws more", x.seed(-5), seed);
        CHECK.due("what was told as a seed", x.seed(0), -5);
    }

    private static void fading() {
        DreamFort x = Check.made("prisoner years 7 marks abcdef;prisoner years 9 marks ab;sleeper sleep 0;sleeper sleep 0 awake;"
                + "told 0 0 bdf;told 1 0 ac;told 1 1 ab", "fade if shared;fade if told > 1;fade if awake and prisoner > 0");
        // sleeper 0: shared, so b goes; sleeper 1: shared still, so a goes; of prisoner 1: awake, so a goes
        CHECK.due("ahead 0", x.ahead(0, 0, 0), 42);
        CHECK.due("ahead 1, the least mark", x.ahead(0, 0, 1), 40);
        CHECK.due("ahead 1 of the other", x.ahead(1, 0, 1), 4);
        CHECK.due("ahead 1, awake", x.ahead(1, 1, 1), 2);
        CHECK.due("ahead 2, not awake any more, nor two told", x.ahead(1, 1, 2), 2);
        // night 2: 0 is shared: d goes; 1 is shared: c goes; then neither is shared, one mark told stays
        CHECK.due("ahead 2", x.ahead(0, 0, 2), 32);
        CHECK.due("ahead 2 of the other", x.ahead(1, 0, 2), 0);
        CHECK.due("ahead 60", x.ahead(0, 0, 60), 32);
        CHECK.noArgument("ahead(0, 0, 61)", () -> x.ahead(0, 0, 61));
        CHECK.noArgument("ahead(0, 0, -1)", () -> x.ahead(0, 0, -1));
        CHECK.noIndex("ahead(2, 0, 61)", () -> x.ahead(2, 0, 61));
        CHECK.noIndex("ahead(0, 2, 1)", () -> x.ahead(0, 2, 1));
        CHECK.due("nothing of it stays", x.told(0, 0), 42);
        CHECK.due("no draws", x.seed(1), 1);
        CHECK.due("no nights", x.count(4), 0);
        x.nights(2);
        CHECK.due("two nights", x.told(0, 0), 32);
        CHECK.due("two nights of the other", x.told(1, 0), 0);
        // by all as it is then: when 1 comes, 0 was told nothing any more
        DreamFort y = Check.made("prisoner years 7 marks ab;sleeper sleep 0;sleeper sleep 0;told 0 0 a;told 1 0 b", "fade if shared");
        CHECK.due("the first forgets", y.ahead(0, 0, 1), 0);
        CHECK.due("the second does not", y.ahead(1, 0, 1), 2);
        // two fade lines fade one mark; of one out it fades, too
        DreamFort z = Check.made("prisoner years 7 marks abc;sleeper sleep 100;told 0 0 abc", "fade;fade");
        CHECK.due("out by the dream of what then fades", z.nights(1), 1);
        CHECK.due("one mark a night", z.told(0, 0), 6);
        z.nights(1);
        CHECK.due("of one out, too", z.told(0, 0), 4);
    }

    private static void tellings() {
        DreamFort x = Check.made("prisoner years 7 marks ace;sleeper sleep 0;sleeper sleep 0;told 0 0 a");
        CHECK.due("tell a second mark", x.tell(0, 0, 4), 2);
        CHECK.due("tell it again", x.tell(0, 0, 4), 2);
        CHECK.due("told", x.told(0, 0), 17);
        CHECK.noState("tell a mark he does not have", () -> x.tell(0, 0, 1));
        CHECK.noIndex("tell(2, 0, 0)", () -> x.tell(2, 0, 0));
        CHECK.noIndex("tell(0, 1, 0)", () -> x.tell(0, 1, 0));
        CHECK.noIndex("tell(0, 0, 6)", () -> x.tell(0, 0, 6));
        CHECK.noIndex("tell(0, 0, -1)", () -> x.tell(0, 0, -1));
        CHECK.due("tell the other", x.tell(1, 0, 2), 1);
        CHECK.due("forget", x.forget(0), 2);
        CHECK.due("forgotten", x.told(0, 0), 0);
        CHECK.due("the other did not forget", x.told(1, 0), 4);
        CHECK.due("forget nothing", x.forget(0), 0);
        CHECK.noIndex("forget(2)", () -> x.forget(2));
        CHECK.noIndex("forget(-1)", () -> x.forget(-1));
    }

    private static void cheeses() {
        DreamFort x = Check.made("sleeper sleep 30 cheese 2");
        CHECK.due("more cheese", x.cheese(0, 3), 5);
        CHECK.due("chance", x.sleeper(0, 4), 55);
        CHECK.due("9 at most", x.cheese(0, 9), 9);
        CHECK.noArgument("cheese(0, 0)", () -> x.cheese(0, 0));
        CHECK.noArgument("cheese(0, 10)", () -> x.cheese(0, 10));
        CHECK.noIndex("cheese(1, 0)", () -> x.cheese(1, 0));
        CHECK.noIndex("cheese(-1, 1)", () -> x.cheese(-1, 1));
    }

    private static void meetings() {
        DreamFort x = Check.made("prisoner years 1;prisoner years 1;sleeper sleep 30 met 1;sleeper sleep 1");
        CHECK.due("meets", x.meet(0, 0), true);
        CHECK.due("met", x.meet(0, 1), false);
        CHECK.due("has met both", x.sleeper(0, 3), 3);
        CHECK.noIndex("meet(2, 0)", () -> x.meet(2, 0) ? 1 : 0);
        CHECK.noIndex("meet(0, 2)", () -> x.meet(0, 2) ? 1 : 0);
        CHECK.due("wakes", x.wake(1), true);
        CHECK.due("woke", x.wake(1), false);
        CHECK.due("awake", x.awake(), 2);
        CHECK.noIndex("wake(2)", () -> x.wake(2) ? 1 : 0);
        CHECK.noIndex("wake(-1)", () -> x.wake(-1) ? 1 : 0);
    }

    private static void strictness() {
        DreamFort x = new DreamFort();
        CHECK.due("strict was 2", x.strict(6), 2);
        CHECK.due("strict was 6", x.strict(1), 6);
        CHECK.noArgument("strict(0)", () -> x.strict(0));
        CHECK.noArgument("strict(7)", () -> x.strict(7));
        CHECK.due("strict", x.count(5), 1);
    }

    private static void retaking() {
        DreamFort x = Check.made("prisoner years 1 marks ab;prisoner years 2 marks ab;sleeper sleep 100;sleeper sleep 100;told 0 0 ab;"
                + "told 1 1 ab");
        CHECK.noState("retake one not out", () -> x.retake(0));
        CHECK.noIndex("retake(2)", () -> x.retake(2));
        CHECK.noIndex("retake(-1)", () -> x.retake(-1));
        CHECK.due("both get out", x.nights(1), 2);
        CHECK.due("retake one", x.retake(0), 1);
        CHECK.due("out", x.out(), 2);
        CHECK.due("he gets out again", x.nights(1), 1);
        CHECK.due("out again", x.out(), 3);
    }

    private static void trials() {
        DreamFort x = Check.made("prisoner years 7 marks ab;prisoner years 30 marks ab;sleeper sleep 38;sleeper sleep 15;told 0 0 ab;"
                + "told 1 1 ab");
        // from seed 1 the rests are 38, 58; 13, 15; 51, 27: the first gets out in night 2
        CHECK.due("trial of 0", x.trial(0, false), 0);
        CHECK.due("trial of 1", x.trial(1, false), 0);
        CHECK.due("trial of 2", x.trial(2, false), 1);
        CHECK.due("dreams of 1", x.trial(1, true), 0);
        CHECK.due("dreams of 2", x.trial(2, true), 1);
        CHECK.noArgument("trial(61)", () -> x.trial(61, true));
        CHECK.noArgument("trial(-1)", () -> x.trial(-1, false));
        CHECK.due("nothing stays: seed", x.seed(1), 1);
        CHECK.due("nothing stays: out", x.out(), 0);
        CHECK.due("nothing stays: night", x.count(4), 0);
        CHECK.due("nothing stays: log", x.count(8), 0);
        CHECK.due("nothing stays: acts", x.count(9), 0);
        CHECK.due("span of 0", x.span(0, true), 0);
        int least = 1000;
        int most = 0;
        for (int seed = 1; seed <= 6; seed++) {
            DreamFort y = Check.made("prisoner years 7 marks ab;prisoner years 30 marks ab;sleeper sleep 38;sleeper sleep 15;told 0 0 ab;"
                    + "told 1 1 ab");
            y.seed(seed);
            y.nights(3);
            least = Math.min(least, y.count(6));
            most = Math.max(most, y.count(6));
        }
        x.seed(99);
        CHECK.due("the least of 3 nights", x.span(3, false), least);
        CHECK.due("the most of 3 nights", x.span(3, true), most);
        CHECK.due("they are not all one", least < most, true);
        spansBySeed();
        CHECK.due("the seed stays", x.seed(1), 99);
        CHECK.noArgument("span(61)", () -> x.span(61, true));
        CHECK.noArgument("span(-1)", () -> x.span(-1, false));
        x.nights(2);
        CHECK.due("trial of 0 has those out now", x.trial(0, false), 1);
        CHECK.due("span of 0 has those out now", x.span(0, false), 7);
        DreamFort z = Check.made("prisoner years 7 marks ab;sleeper sleep 100;sleeper sleep 100;told 0 0 a;told 1 0 b");
        CHECK.due("more dreams than the log has rows", z.trial(60, true), 120);
    }

    /** One sleeper's least draw of 100 from each seed: so great must its chance be, and 1 more, for a dream. */
    private static void spansBySeed() {
        int[] ofOneNight = {38, 8, 47, 17, 55, 26};
        int[] ofSevenNights = {10, 8, 7, 7, 4, 15};
        for (int chance = 0; chance <= 100; chance++) {
            DreamFort x = Check.made("prisoner years 8 marks ab;sleeper sleep " + chance + ";told 0 0 ab");
            spanBySeed(x, chance, 1, ofOneNight);
            spanBySeed(x, chance, 7, ofSevenNights);
        }
    }

    private static void spanBySeed(DreamFort x, int chance, int n, int[] leastDraws) {
        int outs = 0;
        for (int draw : leastDraws) {
            outs += draw < chance ? 1 : 0;
        }
        CHECK.due("the least of " + n + " nights at " + chance, x.span(n, false), outs == 6 ? 8 : 0);
        CHECK.due("the most of " + n + " nights at " + chance, x.span(n, true), outs > 0 ? 8 : 0);
    }

    private static void logs() {
        DreamFort x = Check.made("prisoner years 7 marks ab;prisoner years 8 marks ab;sleeper sleep 100;sleeper sleep 0;sleeper sleep 100;"
                + "told 0 0 a;told 2 1 ab;night 40");
        CHECK.due("log of nothing", x.log(0, 3), -1);
        CHECK.noElement("log(0, 4)", () -> x.log(0, 4));
        CHECK.noElement("log(0, -1)", () -> x.log(0, -1));
        x.nights(1);
        int[] due = {40, 2, 1, 1, 40, 0, 0, 0};
        for (int i = 0; i < 8; i++) {
            CHECK.due("log(" + i / 4 + ", " + i % 4 + ")", x.log(i / 4, i % 4), due[i]);
        }
        CHECK.due("log(2, 0)", x.log(2, 0), -1);
        CHECK.due("log(-1, 0)", x.log(-1, 0), -1);
        CHECK.noElement("log(9, 4)", () -> x.log(9, 4));
        CHECK.due("rows of 1", x.led(1, false), 1);
        CHECK.due("night of 1", x.led(1, true), 40);
        x.nights(10);
        CHECK.due("rows of 0", x.led(0, false), 11);
        CHECK.due("the latest night of 0", x.led(0, true), 50);
        CHECK.due("rows of 1 still", x.led(1, false), 1);
        x.nights(50);
        CHECK.due("60 rows", x.count(8), 60);
        CHECK.due("the rows of 1 are gone", x.led(1, false), 0);
        CHECK.due("no night of 1", x.led(1, true), -1);
        CHECK.due("the oldest row", x.log(59, 0), 41);
        CHECK.due("the latest row", x.log(0, 0), 100);
        CHECK.due("no row 60 ago", x.log(60, 0), -1);
        CHECK.noIndex("led(2)", () -> x.led(2, true));
        CHECK.noIndex("led(-1)", () -> x.led(-1, false));
    }

    private static void undoing() {
        DreamFort x = Check.made("prisoner years 7 marks ab;sleeper sleep 100 cheese 1;told 0 0 a", "fade if cheese > 8");
        CHECK.due("no act yet", x.count(9), 0);
        x.tell(0, 0, 1);
        x.cheese(0, 8);
        x.meet(0, 0);
        x.wake(0);
        x.strict(5);
        x.nights(3);
        x.forget(0);
        CHECK.due("seven acts", x.count(9), 7);
        CHECK.noState("a call that throws is no act", () -> x.tell(0, 0, 2));
        CHECK.noState("nor this", () -> x.retake(0));
        CHECK.noIndex("nor this one", () -> x.forget(1));
        CHECK.due("still seven", x.count(9), 7);
        x.seed(77);
        CHECK.due("undo forget", x.undo(), true);
        CHECK.due("two marks faded", x.told(0, 0), 0);
        CHECK.due("two dreams were dreamt", x.count(8), 1);
        CHECK.due("undo three nights", x.undo(), true);
        CHECK.due("told", x.told(0, 0), 3);
        CHECK.due("night", x.count(4), 0);
        CHECK.due("log", x.count(8), 0);
        CHECK.due("awake", x.awake(), 1);
        CHECK.due("the seed is as it was ahead", x.seed(1), 1);
        x.undo();
        CHECK.due("strict", x.count(5), 2);
        x.undo();
        CHECK.due("not awake", x.awake(), 0);
        x.undo();
        CHECK.due("not met", x.sleeper(0, 3), 0);
        x.undo();
        CHECK.due("cheese", x.sleeper(0, 1), 1);
        x.undo();
        CHECK.due("told a alone", x.told(0, 0), 1);
        CHECK.due("no more", x.undo(), false);
        x.tell(0, 0, 1);
        x.nights(1);
        x.retake(0);
        x.undo();
        CHECK.due("out again", x.out(), 1);
        undoingMany(x);
        undoingRows();
    }

    private static void undoingRows() {
        DreamFort x = Check.made("prisoner years 7 marks ab;prisoner years 7 marks ab;sleeper sleep 100;sleeper sleep 100;told 0 0 a;"
                + "told 1 1 b;night 70");
        x.nights(31);
        x.forget(1);
        x.tell(1, 0, 1);
        x.nights(40);
        CHECK.due("rows of 1 are gone", x.led(1, false), 0);
        x.undo();
        CHECK.due("rows of 1 are there again", x.led(1, false), 30);
        CHECK.due("the latest row", x.log(0, 2), 1);
        CHECK.due("its night", x.log(0, 0), 100);
        CHECK.due("the oldest row's night", x.log(59, 0), 71);
        x.nights(1);
        CHECK.due("rows go on behind it", x.log(2, 2), 1);
    }

    private static void undoingMany(DreamFort x) {
        for (int i = 1; i <= 15; i++) {
            x.strict(1 + i % 6);
        }
        CHECK.due("12 are remembered", x.count(9), 12);
        for (int i = 14; i >= 3; i--) {
            CHECK.due("undo", x.undo(), true);
            CHECK.due("strict", x.count(5), 1 + i % 6);
        }
        CHECK.due("no 13th", x.undo(), false);
        x.meet(0, 0);
        x.meet(0, 0);
        CHECK.due("what changes nothing is an act, too", x.count(9), 2);
        Check.put(x, "wrong");
        CHECK.noArgument("a wrong text", () -> x.law());
        CHECK.due("takes no act away", x.count(9), 2);
        x.end(0);
        x.feed(0, 0, 0, 0, 0);
        x.undo();
        CHECK.due("the tape is not undone", x.end(20), true);
        CHECK.due("fault is not undone", x.fault(), 0);
        Check.put(x, "");
        x.law();
        CHECK.due("a law: none are remembered", x.undo(), false);
        x.wake(0);
        Check.put(x, "");
        x.fortress();
        CHECK.due("a text: none are remembered", x.undo(), false);
    }

    private static void images() {
        DreamFort x = Check.made("prisoner years 7 marks ab;sleeper sleep 100;told 0 0 a", "pull 9");
        CHECK.due("no image yet", x.back(), false);
        x.seed(5);
        x.tell(0, 0, 1);
        x.image();
        CHECK.due("an image takes no act away", x.count(9), 1);
        x.nights(2);
        x.forget(0);
        x.strict(6);
        Check.put(x, "prisoner years 1;sleeper sleep 1;night 500");
        x.fortress();
        Check.put(x, "pull 1;pull 2");
        x.law();
        Check.put(x, "pull x");
        CHECK.noArgument("a wrong law", () -> x.law());
        x.wake(1);
        CHECK.due("back", x.back(), true);
        int[] counts = {1, 1, 1, 1, 0, 2, 0, 2, 0, 0};
        for (int i = 0; i < counts.length; i++) {
            CHECK.due("count(" + i + ") as in the image", x.count(i), counts[i]);
        }
        CHECK.due("none out", x.out(), 0);
        CHECK.due("none awake", x.awake(), 0);
        CHECK.due("pull by the law of the image", x.pull(0, 0), 13);
        CHECK.due("the seed of the image", x.seed(5), 5);
        CHECK.due("fault is not gone back to", x.fault(), 5);
        CHECK.due("none are remembered", x.undo(), false);
        CHECK.noIndex("no second prisoner", () -> x.prisoner(1, 0));
        x.feed(0, 0, 0, 0, 0);
        x.meet(0, 0);
        CHECK.due("back once more", x.back(), true);
        CHECK.due("not met", x.sleeper(0, 3), 0);
        CHECK.due("the tape stays", x.end(20), true);
        x.cheese(0, 4);
        x.image();
        x.undo();
        CHECK.due("cheese undone", x.sleeper(0, 1), 0);
        x.back();
        CHECK.due("another image", x.sleeper(0, 1), 4);
    }

    private static void counts() {
        DreamFort x = Check.made("prisoner years 7 marks ab;prisoner years 9 marks cd;sleeper sleep 100;told 0 1 cd;told 0 0 a;night 8",
                "fade if met;pull 1");
        x.nights(1);
        x.cheese(0, 1);
        int[] due = {2, 1, 1, 2, 9, 2, 9, 3, 1, 2};
        for (int i = 0; i < due.length; i++) {
            CHECK.due("count(" + i + ")", x.count(i), due[i]);
        }
        CHECK.due("count(10)", x.count(10), -1);
        CHECK.due("count(-1)", x.count(-1), -1);
    }
}
