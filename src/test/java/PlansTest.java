/** Promises 19 to 29 and 33 to 35: odds, needs, plans, witnesses and rumours. */
public final class PlansTest {
    private static final Check CHECK = new Check("PlansTest");

    private static final String FORT = "prisoner years 30 marks abc;prisoner years 12 marks bcd;prisoner years 45 marks ef;"
            + "sleeper sleep 60 cheese 2;sleeper sleep 40 met 0;sleeper sleep 90;"
            + "told 0 0 ab;told 1 0 abc;told 2 1 b;told 2 2 e;strict 2;night 4";

    public static void main(String[] args) {
        odds();
        needs();
        covers();
        outs();
        never();
        beds();
        couples();
        sworn();
        swornTapes();
        rumours();
        rumourTapes();
        CHECK.finish();
    }

    private static void odds() {
        DreamFort x = Check.made(FORT);
        CHECK.due("within 0", x.within(0, 0), 0);
        CHECK.due("within 1", x.within(0, 1), 7000);
        CHECK.due("within 2", x.within(0, 2), 9100);
        CHECK.due("within 5, rounded down each time", x.within(0, 5), 10000 - 24);
        CHECK.due("within 60", x.within(0, 60), 10000);
        CHECK.due("within, no odds", x.within(1, 60), 0);
        CHECK.noArgument("within 61", () -> x.within(0, 61));
        CHECK.noArgument("within -1", () -> x.within(0, -1));
        CHECK.noIndex("within of none", () -> x.within(3, 61));
        CHECK.noIndex("within of -1", () -> x.within(-1, 1));
        CHECK.due("soon 0", x.soon(0, 0), 0);
        CHECK.due("soon 1", x.soon(0, 1), 1);
        CHECK.due("soon 7000", x.soon(0, 7000), 1);
        CHECK.due("soon 7001", x.soon(0, 7001), 2);
        CHECK.due("soon 10000", x.soon(0, 10000), 8);
        CHECK.due("soon without odds", x.soon(1, 1), -1);
        CHECK.due("soon 0 without odds", x.soon(1, 0), 0);
        CHECK.noArgument("soon 10001", () -> x.soon(0, 10001));
        CHECK.noArgument("soon -1", () -> x.soon(0, -1));
        CHECK.noIndex("soon of none", () -> x.soon(3, -1));
        DreamFort y = Check.made("prisoner years 1 marks ab;sleeper sleep 1;told 0 0 ab");
        int left = 10000;
        for (int i = 0; i < 60; i++) {
            left = left * 9900 / 10000;
        }
        CHECK.due("within 60 at odds of 100", y.within(0, 60), 10000 - left);
        CHECK.due("soon at 60", y.soon(0, 10000 - left), 60);
        CHECK.due("soon beyond 60", y.soon(0, 10001 - left), -1);
    }

    private static void needs() {
        DreamFort x = Check.made(FORT);
        int[][] due = {{0, 14, -1}, {-1, -1, -1}, {3, 4, 32}};
        for (int s = 0; s < 3; s++) {
            for (int p = 0; p < 3; p++) {
                CHECK.due("need(" + s + ", " + p + ")", x.need(s, p), due[s][p]);
            }
        }
        CHECK.noIndex("need(3, 0)", () -> x.need(3, 0));
        CHECK.noIndex("need(0, 3)", () -> x.need(0, 3));
        CHECK.noIndex("need(-1, 0)", () -> x.need(-1, 0));
        // the law pulls less when more is told: two marks would do, three would not
        DreamFort y = Check.made("prisoner years 1 marks abcd;prisoner years 1 marks ef;sleeper sleep 1;told 0 1 ef;strict 1",
                "pull 10 if prisoner < 1 and told > 1 and told < 3;pull 9 if prisoner > 0");
        CHECK.due("need by a law", y.need(0, 0), 3);
        y.tell(0, 0, 2);
        CHECK.due("need beside what was told", y.need(0, 0), 1);
        y.tell(0, 0, 0);
        CHECK.due("need of nothing", y.need(0, 0), 0);
        y.tell(0, 0, 3);
        CHECK.due("too much was told", y.need(0, 0), -1);
        y.forget(0);
        y.tell(0, 1, 4);
        y.strict(3);
        CHECK.due("too few marks for one so strict", y.need(0, 1), -1);
        y.strict(2);
        CHECK.due("the mark that is left", y.need(0, 1), 32);
        y.meet(0, 1);
        CHECK.due("one that it met", y.need(0, 1), -1);
        DreamFort z = Check.made("prisoner years 1 marks ab;sleeper sleep 100;told 0 0 ab");
        z.nights(1);
        CHECK.due("one out", z.need(0, 0), -1);
        DreamFort less = Check.made("prisoner years 1 marks abc;prisoner years 1 marks abc;sleeper sleep 1;told 0 0 b;told 0 1 c",
                "pull 50 if told < 2 and prisoner < 1");
        CHECK.due("a need by which he pulls less than he did", less.need(0, 0), 1);
        CHECK.due("none against one who pulls so much", less.need(0, 1), -1);
        DreamFort six = Check.made("prisoner years 1 marks abcdef;prisoner years 1 marks abcdef;sleeper sleep 0;strict 6");
        CHECK.due("all six marks", six.need(0, 0), 63);
        CHECK.due("all six marks of the other", six.need(0, 1), 63);
        six.strict(1);
        six.tell(0, 1, 2);
        CHECK.due("one that pulls as much as a later one", six.need(0, 0), 1);
        six.forget(0);
        six.tell(0, 0, 2);
        CHECK.due("one that must pull more than an earlier one", six.need(0, 1), 3);
    }

    private static void covers() {
        DreamFort x = Check.made(FORT);
        CHECK.due("cover(0, 1)", x.cover(0, 1), 0);
        CHECK.due("whom(0, 1)", x.whom(0, 1), 1);
        CHECK.due("cover(0, 2)", x.cover(0, 2), 2);
        CHECK.due("whom(0, 2)", x.whom(0, 2), 5);
        CHECK.due("cover(0, 3)", x.cover(0, 3), -1);
        CHECK.due("whom(0, 3)", x.whom(0, 3), -1);
        CHECK.due("cover(1, 1)", x.cover(1, 1), 1);
        CHECK.due("whom(1, 1)", x.whom(1, 1), 4);
        CHECK.due("cover(1, 2)", x.cover(1, 2), 4);
        CHECK.noArgument("cover(0, 0)", () -> x.cover(0, 0));
        CHECK.noArgument("cover(0, 7)", () -> x.cover(0, 7));
        CHECK.noIndex("cover(3, 0)", () -> x.cover(3, 0));
        CHECK.noArgument("whom(0, 0)", () -> x.whom(0, 0));
        CHECK.noArgument("whom(0, 7)", () -> x.whom(0, 7));
        CHECK.noIndex("whom(-1, 7)", () -> x.whom(-1, 7));
        DreamFort y = Check.made("prisoner years 1 marks abc;sleeper sleep 1;sleeper sleep 1;sleeper sleep 1;sleeper sleep 1;told 2 0 a;"
                + "told 3 0 ab");
        CHECK.due("whom, of several the least number", y.whom(0, 3), 13);
        CHECK.due("cover 3", y.cover(0, 3), 3);
        CHECK.due("whom 4", y.whom(0, 4), 15);
        CHECK.due("cover 4", y.cover(0, 4), 5);
        CHECK.due("cover 5 of 4", y.cover(0, 5), -1);
        Check.put(y, "sleeper sleep 1;sleeper sleep 1");
        y.fortress();
        CHECK.due("cover 6", y.cover(0, 6), 9);
        CHECK.due("whom 6", y.whom(0, 6), 63);
    }

    private static void outs() {
        DreamFort x = Check.made(FORT);
        int[][] due = {{0, 30, 0, -1, -1}, {1, 75, 0, -1, 2}, {36, 75, 0, -1, 2}};
        for (int[] row : due) {
            for (int p = -1; p < 3; p++) {
                CHECK.due("outs(" + p + ", " + row[0] + ")", x.outs(p, row[0]), row[p + 2]);
            }
        }
        CHECK.noArgument("outs(0, 37)", () -> x.outs(0, 37));
        CHECK.noArgument("outs(-1, -1)", () -> x.outs(-1, -1));
        CHECK.noIndex("outs(3, 37)", () -> x.outs(3, 37));
        CHECK.noIndex("outs(-2, 0)", () -> x.outs(-2, 0));
        // of ways of like years the first: none ahead of sleepers, PRISONER by PRISONER
        DreamFort y = Check.made("prisoner years 5 marks ab;prisoner years 5 marks ab;prisoner years 0 marks ab;sleeper sleep 1;"
                + "sleeper sleep 1");
        CHECK.due("years of one", y.outs(-1, 3), 5);
        CHECK.due("none for the first", y.outs(0, 3), -1);
        CHECK.due("the second with sleeper 0", y.outs(1, 3), 0);
        CHECK.due("years of two", y.outs(-1, 36), 10);
        CHECK.due("the first with sleeper 0", y.outs(0, 36), 0);
        CHECK.due("the second with sleeper 1", y.outs(1, 36), 1);
        CHECK.due("none for 0 years", y.outs(2, 36), -1);
        DreamFort z = Check.made("prisoner years 5 marks ab;prisoner years 5 marks ab;sleeper sleep 1;sleeper sleep 1");
        CHECK.due("years of one of two", z.outs(-1, 3), 5);
        CHECK.due("none for the first of two", z.outs(0, 3), -1);
        CHECK.due("the second of two with sleeper 0", z.outs(1, 3), 0);
        CHECK.due("outs of nobody", new DreamFort().outs(-1, 0), 0);
    }

    private static void never() {
        DreamFort x = Check.made(FORT);
        CHECK.due("never", x.never(), 0);
        x.strict(3);
        CHECK.due("one with two marks never", x.never(), 4);
        x.strict(4);
        CHECK.due("all never", x.never(), 7);
        DreamFort y = Check.made("prisoner years 1 marks ab;prisoner years 1;sleeper sleep 100;told 0 0 ab");
        CHECK.due("one without marks never", y.never(), 2);
        y.nights(1);
        CHECK.due("one out is not among these", y.never(), 2);
        CHECK.due("never without sleepers", Check.made("prisoner years 1 marks ab").never(), 1);
    }

    private static void beds() {
        DreamFort x = Check.made(FORT);
        int[][] due = {{0, 0, 0, 0}, {1, 0, 0, 1}, {5, 2, 0, 3}, {6, 2, 1, 3}};
        for (int[] row : due) {
            for (int p = 0; p < 3; p++) {
                CHECK.due("beds(" + p + ", " + row[0] + ")", x.beds(p, row[0]), row[p + 1]);
            }
        }
        CHECK.due("99 beds are all given", x.beds(0, 99) + x.beds(1, 99) + x.beds(2, 99), 99);
        CHECK.noArgument("beds(0, 100)", () -> x.beds(0, 100));
        CHECK.noArgument("beds(0, -1)", () -> x.beds(0, -1));
        CHECK.noIndex("beds(3, 100)", () -> x.beds(3, 100));
        CHECK.noIndex("beds(-1, 0)", () -> x.beds(-1, 0));
        DreamFort y = Check.made("prisoner years 9 marks ab;prisoner years 0;prisoner years 0;sleeper sleep 100;told 0 0 ab");
        CHECK.due("of 0 years the least", y.beds(0, 99), 99);
        y.nights(1);
        CHECK.due("none for one out", y.beds(0, 9), 0);
        CHECK.due("all for the next", y.beds(1, 9), 9);
    }

    private static void couples() {
        DreamFort x = Check.made(FORT);
        int[] due = {1, 1, 0, -1};
        for (int s = -1; s < 3; s++) {
            CHECK.due("couples(" + s + ")", x.couples(s), due[s + 1]);
        }
        CHECK.noIndex("couples(3)", () -> x.couples(3));
        CHECK.noIndex("couples(-2)", () -> x.couples(-2));
        // 0-1 and 2-3 share one each; 0-2 and 1-3 share two each; 0-3, 1-2 nothing
        DreamFort y = Check.made("prisoner years 1 marks ab;prisoner years 1 marks ab;prisoner years 1 marks ab;prisoner years 1 marks ab;"
                + "sleeper sleep 1;sleeper sleep 1;sleeper sleep 1;sleeper sleep 1;told 0 0 a;told 2 0 b;told 0 1 a;told 2 1 b");
        Check.put(y, "told 1 2 a;told 3 2 ab;told 1 3 a;told 3 3 b");
        y.fortress();
        CHECK.due("the most", y.couples(-1), 4);
        int[] with = {2, 3, 0, 1};
        for (int s = 0; s < 4; s++) {
            CHECK.due("couples(" + s + ") of four", y.couples(s), with[s]);
        }
        // when any two are as good, none goes first: 0 alone, 1 with 2
        DreamFort z = Check.made("prisoner years 1 marks ab;sleeper sleep 1;sleeper sleep 1;sleeper sleep 1;told 0 0 a;told 1 0 a;told 2 0 b");
        CHECK.due("one pair of three", z.couples(-1), 1);
        CHECK.due("the first is alone", z.couples(0), -1);
        CHECK.due("the second is with the third", z.couples(1), 2);
        CHECK.due("couples of nobody", new DreamFort().couples(-1), 0);
    }

    private static void swornAll(DreamFort x, int fitting, int likely, int ask, int... rows) {
        String told = java.util.Arrays.toString(rows);
        Check.putRows(x, rows);
        CHECK.due("sworn " + told, x.sworn(), fitting);
        CHECK.due("the tape is used up", x.end(1), false);
        Check.putRows(x, rows);
        CHECK.due("likely " + told, x.likely(), likely);
        CHECK.due("the tape is used up", x.end(1), false);
        Check.putRows(x, rows);
        CHECK.due("ask " + told, x.ask(), ask);
        CHECK.due("the tape is used up", x.end(1), false);
    }

    private static void sworn() {
        DreamFort x = Check.made("prisoner years 1 marks abc;prisoner years 1 marks bcd;prisoner years 1 marks ef;prisoner years 1 marks be");
        swornAll(x, 15, 0, 2);
        swornAll(x, 15, 0, 2, 0, 1);
        swornAll(x, 15, 2, 2, 1, 0);
        // wrong rows: 0 has one, 1 none, 2 two, 3 one
        swornAll(x, 11, 1, 0, 1, 1, 2, 1, 0, 0);
        swornAll(x, 11, 0, 0, 0, 1, 1, 1, 1, 1);
        swornAll(x, 15, 0, 2, 5, 1, 5, 0);
        swornAll(x, 0, -1, -1, 0, 1, 0, 1, 0, 0, 0, 0);
        swornAll(x, 4, 2, -1, 4, 1, 5, 1, 1, 0);
        x.strict(1);
        // those out fit, too
        DreamFort y = Check.made("prisoner years 1 marks ab;prisoner years 1 marks ac;sleeper sleep 100;told 0 0 ab");
        y.nights(1);
        swornAll(y, 3, 0, 1, 1, 1);
        swornAll(new DreamFort(), 0, -1, -1);
    }

    private static void swornTapes() {
        DreamFort full = Check.made("prisoner years 1 marks a;prisoner years 1 marks b;prisoner years 1 marks c;prisoner years 1 marks d;"
                + "prisoner years 1 marks e;prisoner years 1 marks ef;sleeper sleep 1;sleeper sleep 1;told 0 5 e;told 1 5 f");
        swornAll(full, 48, 5, 5, 4, 1, 5, 1, 0, 0, 4, 1);
        swornAll(full, 63, 5, 4, 5, 1);
        // a mark told of any other pulls as much as the one told of 5, and the least number goes first
        rumourAll(full, 2, 34, 0, 0, 5);
        int[] forty = new int[40];
        swornAll(Check.made("prisoner years 1 marks b"), 1, 0, -1, forty);
        int[][] wrong = {{0}, {0, 2}, {6, 0}, {0, 255}, {255, 1}, {0, 1, 1}, new int[42]};
        for (int[] rows : wrong) {
            DreamFort x = Check.made("prisoner years 1 marks b");
            String told = java.util.Arrays.toString(rows);
            Check.putRows(x, rows);
            CHECK.noArgument("sworn " + told, () -> x.sworn());
            CHECK.due("the tape is used up", x.end(1), false);
            Check.putRows(x, rows);
            CHECK.noArgument("likely " + told, () -> x.likely());
            CHECK.due("the tape is used up", x.end(1), false);
            Check.putRows(x, rows);
            CHECK.noArgument("ask " + told, () -> x.ask());
            CHECK.due("the tape is used up", x.end(1), false);
            CHECK.due("rows are no text", x.fault(), -1);
        }
    }

    private static void rumourAll(DreamFort x, int fitting, int first, int next, int... rows) {
        String told = java.util.Arrays.toString(rows);
        Check.putRows(x, rows);
        CHECK.due("rumour " + told, x.rumour(false), fitting);
        CHECK.due("the tape is used up", x.end(1), false);
        Check.putRows(x, rows);
        CHECK.due("first rumour " + told, x.rumour(true), first);
        CHECK.due("the tape is used up", x.end(1), false);
        Check.putRows(x, rows);
        CHECK.due("next " + told, x.next(), next);
        CHECK.due("the tape is used up", x.end(1), false);
    }

    private static void rumours() {
        DreamFort x = Check.made("prisoner years 1 marks abc;prisoner years 1 marks bc;sleeper sleep 1;sleeper sleep 1;told 0 0 a;told 1 1 bc");
        // pairs 0, 1, 2 (of 0) and 7, 8 (of 1). Sleeper 0 dreams of 0 by 0, 1, 2, and by 7 and 8 too (2 and 2); sleeper 1 always of 1
        rumourAll(x, 5, 0, 0);
        rumourAll(x, 5, 0, 0, 0, 0);
        rumourAll(x, 0, -1, -1, 0, 1);
        rumourAll(x, 0, -1, -1, 0, 6);
        rumourAll(x, 5, 0, 0, 1, 1, 1, 1);
        CHECK.due("nothing of it stays", x.told(0, 0), 1);
        CHECK.due("nothing of it stays for 1", x.told(1, 0), 0);
        x.forget(0);
        x.forget(1);
        // now sleepers dream of him of whom they are told
        rumourAll(x, 5, 0, 0);
        rumourAll(x, 3, 0, 0, 0, 0);
        rumourAll(x, 2, 7, 0, 1, 1);
        rumourAll(x, 0, -1, -1, 0, 0, 1, 1);
        rumourAll(x, 0, -1, -1, 0, 6);
        x.tell(0, 0, 0);
        x.tell(0, 0, 1);
        // by 0 and 1 nothing is new for sleeper 0, who dreams of 0 whatever comes; sleeper 1 parts them 3 and 2
        rumourAll(x, 5, 0, 1);
        rumourAll(x, 5, 0, 1, 0, 0);
        // four of one mark each: sleeper 1 dreams of 0 but by what is told of 1; sleeper 0 parts all four
        DreamFort four = Check.made("prisoner years 1 marks a;prisoner years 1 marks b;prisoner years 1 marks c;prisoner years 1 marks d;"
                + "sleeper sleep 1;sleeper sleep 1;told 0 0 a;told 1 0 a;told 1 1 b",
                "pull 1 if sleeper > 0 and prisoner < 1;pull 3 if sleeper < 1 and prisoner > 0");
        rumourAll(four, 4, 0, 0);
        rumourAll(four, 4, 0, 0, 1, 0);
        rumourAll(four, 1, 14, -1, 0, 2);
        // one out pulls at nobody, but his marks are pairs, too
        DreamFort y = Check.made("prisoner years 1 marks ab;prisoner years 1 marks c;sleeper sleep 100;told 0 0 ab");
        y.nights(1);
        rumourAll(y, 2, 0, 0, 0, 6);
        rumourAll(y, 1, 8, -1, 0, 1);
        rumourAll(Check.made("prisoner years 1 marks ab"), 2, 0, -1);
        rumourAll(new DreamFort(), 0, -1, -1);
    }

    private static void rumourTapes() {
        int[] forty = new int[40];
        java.util.Arrays.fill(forty, 0);
        rumourAll(Check.made("prisoner years 1 marks b;sleeper sleep 1"), 1, 1, -1, forty);
        int[][] wrong = {{0}, {0, 1}, {1, 0}, {0, 5}, {0, 7}, {255, 0}, {0, 255}, {0, 0, 0}, new int[42]};
        for (int[] rows : wrong) {
            DreamFort x = Check.made("prisoner years 1 marks b;sleeper sleep 1");
            String told = java.util.Arrays.toString(rows);
            Check.putRows(x, rows);
            CHECK.noArgument("rumour " + told, () -> x.rumour(false));
            CHECK.due("the tape is used up", x.end(1), false);
            Check.putRows(x, rows);
            CHECK.noArgument("first rumour " + told, () -> x.rumour(true));
            Check.putRows(x, rows);
            CHECK.noArgument("next " + told, () -> x.next());
            CHECK.due("the tape is used up", x.end(1), false);
        }
    }
}
