/** Promises 7 to 10 and 30 to 32, 36 to 44: what is known of one, and what is seen of all. */
public final class KnownTest {
    private static final Check CHECK = new Check("KnownTest");

    private static final String FORT = "prisoner years 30 marks abc;prisoner years 12 marks bcd;prisoner years 45 marks ef;"
            + "sleeper sleep 60 cheese 2;sleeper sleep 40 met 0;sleeper sleep 90;"
            + "told 0 0 ab;told 1 0 abc;told 2 1 b;told 2 2 e;strict 2;night 4";

    public static void main(String[] args) {
        prisoners();
        enemies();
        sleepers();
        chances();
        pulls();
        dreams();
        pairs();
        sightsOfAll();
        rests();
        CHECK.finish();
    }

    private static void prisoners() {
        DreamFort x = Check.made(FORT);
        int[][] due = {{30, 7, 0, 7000, 1, 1, 3, 0, 7000}, {12, 14, 0, 0, 1, 0, 4, 0, 0}, {45, 48, 0, 0, 2, 0, 0, 0, 0}};
        for (int p = 0; p < 3; p++) {
            for (int what = 0; what < 9; what++) {
                CHECK.due("prisoner(" + p + ", " + what + ")", x.prisoner(p, what), due[p][what]);
            }
        }
        CHECK.noElement("prisoner(0, 9)", () -> x.prisoner(0, 9));
        CHECK.noElement("prisoner(0, -1)", () -> x.prisoner(0, -1));
        CHECK.noIndex("prisoner(3, 9)", () -> x.prisoner(3, 9));
        CHECK.noIndex("prisoner(-1, 0)", () -> x.prisoner(-1, 0));
        // the sleeper of chance 100 lets prisoner 0 out
        DreamFort y = Check.made("prisoner years 1 marks abc;prisoner years 2 marks ab;prisoner years 3 marks a;"
                + "sleeper sleep 100;told 0 0 ab");
        CHECK.due("striking beside two", y.prisoner(0, 4), 1);
        CHECK.due("mistaken for him of the most in common", y.prisoner(0, 5), 1);
        CHECK.due("mistaken, of several the least", y.prisoner(2, 5), 0);
        CHECK.due("out by the night", y.nights(1), 1);
        CHECK.due("out", y.prisoner(0, 2), 1);
        CHECK.due("striking of one out", y.prisoner(0, 4), 1);
        CHECK.due("striking beside one out", y.prisoner(1, 4), 1);
        CHECK.due("mistaken for one not out", y.prisoner(2, 5), 1);
        CHECK.due("mistaken of one out", y.prisoner(0, 5), 1);
        CHECK.due("nobody dreams of one out", y.prisoner(0, 6), 0);
        CHECK.due("odds of one out", y.prisoner(0, 3), 0);
        DreamFort z = Check.made("prisoner years 1 marks abc");
        CHECK.due("mistaken without another one", z.prisoner(0, 5), -1);
        CHECK.due("enemy without sleepers", z.prisoner(0, 7), -1);
        CHECK.due("worth without sleepers", z.prisoner(0, 8), 0);
    }

    private static void enemies() {
        DreamFort x = Check.made("prisoner years 1 marks ab;sleeper sleep 33;sleeper sleep 57;sleeper sleep 57;sleeper sleep 99 met 0;"
                + "told 0 0 ab;told 1 0 ab;told 2 0 ab;told 3 0 ab");
        // 10000 -> 6700 -> 2881 -> 1238 (1238.83)
        CHECK.due("odds, rounded down each time", x.prisoner(0, 3), 8762);
        CHECK.due("enemy, of several the least", x.prisoner(0, 7), 1);
        // without 1: 6700 -> 2881
        CHECK.due("worth", x.prisoner(0, 8), 2881 - 1238);
        x.wake(1);
        CHECK.due("odds with one awake", x.prisoner(0, 3), 7119);
        CHECK.due("enemy of those asleep", x.prisoner(0, 7), 2);
        x.wake(2);
        x.wake(0);
        CHECK.due("enemy when all are awake", x.prisoner(0, 7), 0);
        CHECK.due("worth when all are awake", x.prisoner(0, 8), 0);
    }

    private static void sleepers() {
        DreamFort x = Check.made(FORT);
        int[][] due = {{60, 2, 0, 0, 70, 0, 1, 28}, {40, 0, 0, 1, 40, 0, 0, 42}, {90, 0, 0, 0, 90, 1, 0, 28}};
        for (int s = 0; s < 3; s++) {
            for (int what = 0; what < 8; what++) {
                CHECK.due("sleeper(" + s + ", " + what + ")", x.sleeper(s, what), due[s][what]);
            }
        }
        CHECK.noElement("sleeper(0, 8)", () -> x.sleeper(0, 8));
        CHECK.noElement("sleeper(0, -1)", () -> x.sleeper(0, -1));
        CHECK.noIndex("sleeper(3, 8)", () -> x.sleeper(3, 8));
        CHECK.noIndex("sleeper(-1, 0)", () -> x.sleeper(-1, 0));
        DreamFort y = Check.made("sleeper sleep 1");
        CHECK.due("no dream", y.sleeper(0, 5), -1);
        CHECK.due("no dream is not good", y.sleeper(0, 6), 0);
        CHECK.due("no share", y.sleeper(0, 7), 0);
    }

    private static void chances() {
        String law = "wake 30 if cheese > 3;wake 1 if sleeper > 0;wake 50 if prisoner + years + marks + told > 0 or met or shared;"
                + "wake 7 if sleep < 50";
        DreamFort x = Check.made("prisoner years 9 marks ab;sleeper sleep 100 cheese 9 met 0;sleeper sleep 100 cheese 3;"
                + "sleeper sleep 5;sleeper sleep 80 awake;told 0 0 ab;told 1 0 ab", law);
        CHECK.due("100 at most, but behind what wakes", x.sleeper(0, 4), 100);
        CHECK.due("100 at most", x.sleeper(1, 4), 100);
        CHECK.due("0 at least", x.sleeper(2, 4), 0);
        CHECK.due("awake", x.sleeper(3, 4), 0);
        x.nights(1);
        CHECK.due("not awake any more", x.sleeper(3, 4), 79);
        Check.put(x, "wake 100;wake 40");
        x.law();
        CHECK.due("145 less 140", x.sleeper(0, 4), 5);
    }

    private static void pulls() {
        DreamFort x = Check.made(FORT, "pull 5 if told < 2;pull 1 if met");
        CHECK.due("told(1, 0)", x.told(1, 0), 7);
        CHECK.due("told(0, 1)", x.told(0, 1), 0);
        CHECK.due("pull by a law", x.pull(2, 1), 7);
        CHECK.due("pull of whom it met", x.pull(1, 0), 7);
        CHECK.due("no pull without a mark told", x.pull(0, 1), 0);
        CHECK.noIndex("told(3, 0)", () -> x.told(3, 0));
        CHECK.noIndex("told(0, 3)", () -> x.told(0, 3));
        CHECK.noIndex("told(-1, 0)", () -> x.told(-1, 0));
        CHECK.noIndex("pull(3, 0)", () -> x.pull(3, 0));
        CHECK.noIndex("pull(0, 3)", () -> x.pull(0, 3));
        CHECK.noIndex("pull(0, -1)", () -> x.pull(0, -1));
        DreamFort y = Check.made("prisoner years 1 marks ab;sleeper sleep 100;told 0 0 ab");
        y.nights(1);
        CHECK.due("no pull of one out", y.pull(0, 0), 0);
        CHECK.due("but it was told", y.told(0, 0), 3);
        y.retake(0);
        CHECK.due("pull of one taken back", y.pull(0, 0), 4);
    }

    private static void dreams() {
        DreamFort x = Check.made("prisoner years 1 marks abc;prisoner years 1 marks abc;sleeper sleep 1;sleeper sleep 1;sleeper sleep 1;"
                + "told 0 0 a;told 0 1 ab;told 1 0 ab;told 1 1 ab;told 2 1 c");
        CHECK.due("the greatest pull", x.sleeper(0, 5), 1);
        CHECK.due("of several the least", x.sleeper(1, 5), 0);
        CHECK.due("dreams of 1", x.prisoner(1, 6), 5);
        CHECK.due("twice", x.twice(), 2);
        CHECK.due("vain", x.vain(), 4);
        x.tell(2, 0, 1);
        x.tell(2, 0, 2);
        CHECK.due("twice now", x.twice(), 1);
        Check.put(x, "sleeper sleep 1;told 3 1 ab");
        x.fortress();
        CHECK.due("both twice", x.twice(), 3);
        x.forget(3);
        CHECK.due("vain now", x.vain(), 0);
        x.strict(3);
        CHECK.due("all in vain", x.vain(), 7);
        x.strict(1);
        x.meet(1, 0);
        CHECK.due("in vain of whom it met", x.vain(), 2);
        x.forget(1);
        CHECK.due("none without a dream is in vain", x.vain(), 0);
        CHECK.due("none is in two dreams", x.twice(), 0);
    }

    private static void pairs() {
        DreamFort x = Check.made("prisoner years 1 marks abc;prisoner years 1 marks bcd;prisoner years 1;sleeper sleep 1 met 0;"
                + "sleeper sleep 1 met 1;sleeper sleep 1");
        CHECK.due("like(0, 1)", x.like(0, 1), 6);
        CHECK.due("like(1, 2)", x.like(1, 2), 0);
        CHECK.noArgument("like(1, 1)", () -> x.like(1, 1));
        CHECK.noIndex("like(3, 3)", () -> x.like(3, 3));
        CHECK.noIndex("like(0, 3)", () -> x.like(0, 3));
        CHECK.noIndex("like(-1, 0)", () -> x.like(-1, 0));
        CHECK.due("friends who met none together", x.friends(0, 1), 0);
        x.meet(0, 1);
        x.meet(0, 2);
        x.meet(1, 2);
        CHECK.due("friends", x.friends(0, 1), 6);
        CHECK.due("friends the other way", x.friends(1, 0), 6);
        CHECK.noArgument("friends(2, 2)", () -> x.friends(2, 2));
        CHECK.noIndex("friends(3, 3)", () -> x.friends(3, 3));
        CHECK.noIndex("friends(0, 3)", () -> x.friends(0, 3));
        CHECK.noIndex("friends(0, -1)", () -> x.friends(0, -1));
    }

    private static void sightsOfAll() {
        DreamFort x = Check.made("prisoner years 5 marks ab;prisoner years 9 marks b;prisoner years 9;sleeper sleep 20 cheese 4;"
                + "sleeper sleep 40;sleeper sleep 40;sleeper sleep 20 cheese 4;sleeper sleep 40 awake");
        CHECK.due("gossip when none was told anything", x.gossip(), -1);
        CHECK.due("longest, of several the least", x.longest(), 1);
        CHECK.due("out", x.out(), 0);
        CHECK.due("awake", x.awake(), 16);
        CHECK.due("twins", x.twins(), 4);
        x.cheese(2, 1);
        CHECK.due("twins of like cheese, too", x.twins(), 2);
        x.undo();
        CHECK.due("mark(0)", x.mark(0), 1);
        CHECK.due("mark(1)", x.mark(1), 3);
        CHECK.due("mark(5)", x.mark(5), 0);
        CHECK.noIndex("mark(6)", () -> x.mark(6));
        CHECK.noIndex("mark(-1)", () -> x.mark(-1));
        CHECK.due("sound, of several the least", x.sound(), 0);
        x.wake(0);
        CHECK.due("sound without 0", x.sound(), 1);
        x.tell(3, 0, 0);
        x.tell(1, 1, 1);
        CHECK.due("gossip, of several the least", x.gossip(), 1);
        x.tell(3, 1, 1);
        CHECK.due("gossip of all together", x.gossip(), 3);
        x.strict(1);
        x.cheese(1, 9);
        x.cheese(1, 9);
        x.forget(3);
        Check.put(x, "sleeper sleep 100;told 5 1 b");
        x.fortress();
        x.nights(1);
        CHECK.due("out now", x.out(), 2);
        CHECK.due("the longest held without the one out", x.longest(), 2);
        CHECK.due("a mark of one out", x.mark(1), 3);
        CHECK.due("none awake in the morning", x.awake(), 0);
        DreamFort y = Check.made("prisoner years 0 marks a;sleeper sleep 0 awake");
        CHECK.due("sound of chance 0", y.sound(), 0);
        CHECK.due("longest of 0 years", y.longest(), 0);
    }

    private static void rests() {
        DreamFort x = Check.made("prisoner years 99 marks ab;sleeper sleep 9;sleeper sleep 10;sleeper sleep 100 awake;sleeper sleep 100;"
                + "told 1 0 ab;told 3 0 ab");
        CHECK.due("one who hardly sleeps", x.rests(0, 0), 8);
        CHECK.due("one who sleeps a little", x.rests(1, 0), 0);
        CHECK.due("one who is awake", x.rests(2, 0), 8);
        CHECK.due("one who sleeps well", x.rests(3, 0), 0);
        CHECK.noIndex("rests(4, 0)", () -> x.rests(4, 0));
        CHECK.noIndex("rests(0, 1)", () -> x.rests(0, 1));
        CHECK.noIndex("rests(-1, 0)", () -> x.rests(-1, 0));
    }
}
