/** The Terms of texts, and promises 1 to 6, at their boundaries. */
final class BoundsOfTexts {
    private static final int BLANKS = 0x20202020;
    private static final String SMALL = "prisoner years 5 marks ab;sleeper sleep 50";
    private static final String FULL = times(6, "prisoner years 5 marks ab") + ";" + times(6, "sleeper sleep 50");

    private final Bounds b;

    BoundsOfTexts(Bounds bounds) {
        b = bounds;
    }

    void run() {
        newObject();
        feed();
        feedBeyond400();
        end();
        endRefused();
        fortress();
        fortressRefused();
        law();
        lawRefused();
        fault();
        marks();
        prisoners();
        sleepers();
        sleepersAtFirst();
        strictness();
        nightNumbers();
        twelveTexts();
        fourteenLines();
        prisonerLines();
        sleeperLines();
        toldLines();
        strictLines();
        nightLines();
        letters();
        metWhom();
        toldWhom();
        toldOfHisMarks();
        digits();
        lawInPlace();
        twelveLines();
        pullLines();
        wakeLines();
        fadeLines();
        conditions();
        alls();
        atoms();
        sums();
        parts();
        lawNumbers();
        facts();
        words();
        blanks();
        emptyTexts();
        sixDeep();
        firstWrongThing();
        wrongNumbers();
        wrongLetters();
        wrongWords();
        seventhDeep();
        tooMany();
        moreMustCome();
        nothingStays();
    }

    // ---- what the tests are made of

    static String times(int n, String line) {
        StringBuilder text = new StringBuilder(line);
        for (int i = 1; i < n; i++) {
            text.append(';').append(line);
        }
        return text.toString();
    }

    /** The text is taken behind the small house; the object is answered. */
    private DreamFort takes(String text) {
        DreamFort x = Check.made(SMALL);
        Check.put(x, text);
        b.is("<" + text + ">", x.fortress(), 2);
        b.is("the fault of <" + text + ">", x.fault(), -1);
        return x;
    }

    /** A text that is wrong at the byte where the @ stands, which is no part of it. */
    private void refusesFortress(String house, String marked) {
        DreamFort x = Check.made(house, "pull 1");
        Check.put(x, marked.replace("@", ""));
        b.refusesTape(x, Bounds.NO_NUMBER, "<" + marked + ">", x::fortress);
        b.is("the fault of <" + marked + ">", x.fault(), marked.indexOf('@'));
    }

    private void refuses(String marked) {
        refusesFortress(SMALL, marked);
    }

    private void refusesLaw(String marked) {
        DreamFort x = Check.made("prisoner years 5 marks ab;sleeper sleep 50;told 0 0 a", "pull 1;wake 2");
        x.wake(0);
        Check.put(x, marked.replace("@", ""));
        b.refusesTape(x, Bounds.NO_NUMBER, "<" + marked + ">", x::law);
        b.is("the fault of <" + marked + ">", x.fault(), marked.indexOf('@'));
    }

    private void takesLaw(String text, int lines) {
        DreamFort x = Check.made(SMALL);
        Check.put(x, text);
        b.is("<" + text + ">", x.law(), lines);
        b.is("the fault of <" + text + ">", x.fault(), -1);
        b.is("the lines of <" + text + ">", x.count(3), lines);
    }

    /** Whether a condition holds of sleeper 1 (sleep 40, cheese 3) and prisoner 1 (years 20, marks abc, told c). */
    private void holds(String condition, boolean due) {
        DreamFort x = Check.made("prisoner years 1 marks ab;prisoner years 20 marks abc;sleeper sleep 9;sleeper sleep 40 cheese 3;"
                + "told 1 1 c", "pull 7 if " + condition);
        b.is("<" + condition + ">", x.pull(1, 1) == 9, due);
        b.is("the pull of <" + condition + ">", x.pull(1, 1), due ? 9 : 2);
    }

    // ---- promises 1 to 6

    private void newObject() {
        b.says(1, "A fortress without PRISONERS.");
        DreamFort x = new DreamFort();
        int[] counts = {0, 0, 0, -1, 0, 2, 0, 0, 0, 0};
        for (int what = 0; what < counts.length; what++) {
            b.is("count(" + what + ")", x.count(what), counts[what]);
        }
        b.is("sets", x.out() + x.awake() + x.twice() + x.vain() + x.never() + x.mark(0) + x.mark(5) + x.twins(), 0);
        b.is("longest", x.longest(), -1);
        b.is("gossip", x.gossip(), -1);
        b.is("sound", x.sound(), -1);
        b.is("outs", x.outs(-1, 36), 0);
        b.is("couples", x.couples(-1), 0);
        b.is("a trial", x.trial(60, false) + x.trial(60, true) + x.span(60, false) + x.span(60, true), 0);
        b.is("log", x.log(0, 0), -1);
        b.is("fault", x.fault(), -1);
        b.is("the tape", Bounds.tapeOf(x), 0);
        b.is("undo", x.undo(), false);
        b.is("back", x.back(), false);
        b.refuses(x, Bounds.NO_SUCH, "prisoner 0", () -> x.prisoner(0, 0));
        b.refuses(x, Bounds.NO_SUCH, "sleeper 0", () -> x.sleeper(0, 0));
        b.is("nights without anybody", x.nights(60), 0);
        b.is("and they pass", x.count(4), 60);
        b.is("without draws", x.seed(1), 1);
    }

    private static int feedBlanks(DreamFort x) {
        return x.feed(BLANKS, BLANKS, BLANKS, BLANKS, BLANKS);
    }

    private void feed() {
        b.says(2, "Twenty bytes come behind the TAPE, of each number the highest first: how many it has;");
        DreamFort x = new DreamFort();
        // "nigh" "t 1;" "nigh" "t 2;" "nigh" / "t 34" "5;ni" "ght " "678 " "    "
        b.is("twenty", x.feed(0x6e696768, 0x7420313b, 0x6e696768, 0x7420323b, 0x6e696768), 20);
        b.is("forty", x.feed(0x74203334, 0x353b6e69, 0x67687420, 0x36373820, BLANKS), 40);
        b.is("the text", x.fortress(), 1);
        b.is("the last byte that was fed", x.count(4), 678);
        b.is("twenty once more", x.feed(0x6e696768, 0x7420397f, 0x80ff0001, -1, Integer.MIN_VALUE), 20);
        b.refusesTape(x, Bounds.NO_NUMBER, "a byte 127", x::fortress);
        b.is("where the byte 127 stands", x.fault(), 7);
        x.feed(0x20202080, 0, 0, 0, 0);
        b.refusesTape(x, Bounds.NO_NUMBER, "a byte 128", x::fortress);
        b.is("where the byte 128 stands", x.fault(), 3);
    }

    private void feedBeyond400() {
        b.says(2, "NONE, and none come, if it would have more than 400.");
        DreamFort x = new DreamFort();
        for (int i = 1; i <= 20; i++) {
            b.is("feed", feedBlanks(x), 20 * i);
        }
        b.is("feed beyond 400", x.feed(1, 2, 3, 4, 5), -1);
        b.is("none came", Bounds.tapeOf(x), 400);
        x.end(381);
        b.is("feed that would make 401", x.feed(1, 2, 3, 4, 5), -1);
        b.is("none came to 381", Bounds.tapeOf(x), 381);
        x.end(380);
        b.is("feed that makes 400", feedBlanks(x), 400);
        b.is("all are blanks still", x.fortress(), 1);
        b.is("no fault", x.fault(), -1);
    }

    private void end() {
        b.says(3, "The TAPE has its first n bytes alone: true;");
        DreamFort x = new DreamFort();
        // "night 12;night 3    "
        x.feed(0x6e696768, 0x74203132, 0x3b6e6967, 0x68742033, BLANKS);
        b.is("as many as it has", x.end(20), true);
        b.is("fewer", x.end(8), true);
        b.is("it has 8", Bounds.tapeOf(x), 8);
        b.is("feed behind these", x.feed(0x33202020, BLANKS, BLANKS, BLANKS, BLANKS), 28);
        x.fortress();
        b.is("the first 8 bytes and those behind", x.count(4), 123);
        b.is("none of none", x.end(0), true);
        feedBlanks(x);
        b.is("none of twenty", x.end(0), true);
        b.is("it has none", Bounds.tapeOf(x), 0);
    }

    private void endRefused() {
        b.says(3, "false, and nothing happens, if it has fewer, or n is below 0.");
        DreamFort x = new DreamFort();
        b.is("one of none", x.end(1), false);
        b.is("-1 of none", x.end(-1), false);
        // "night 7             "
        x.feed(0x6e696768, 0x74203720, BLANKS, BLANKS, BLANKS);
        for (int n : new int[] {21, 22, 400, 401, Integer.MAX_VALUE, -1, -20, Integer.MIN_VALUE}) {
            b.is("end(" + n + ") of twenty", x.end(n), false);
            b.is("it has twenty still", Bounds.tapeOf(x), 20);
        }
        b.is("the text is still there", x.fortress(), 1);
        b.is("all of it", x.count(4), 7);
        for (int i = 0; i < 20; i++) {
            feedBlanks(x);
        }
        b.is("401 of 400", x.end(401), false);
        b.is("400 of 400", x.end(400), true);
    }

    private void fortress() {
        b.says(4, "Uses the TAPE up: a text of THE FORTRESS: how many there are.");
        DreamFort x = new DreamFort();
        Check.put(x, SMALL);
        b.is("the first", x.fortress(), 1);
        b.is("the tape", Bounds.tapeOf(x), 0);
        b.is("the second, of an empty tape", x.fortress(), 2);
        Check.put(x, "night 5");
        b.is("the third", x.fortress(), 3);
        b.is("count", x.count(2), 3);
        Check.put(x, "night");
        b.refusesTape(x, Bounds.NO_NUMBER, "a wrong one", x::fortress);
        b.is("the fourth", x.fortress(), 4);
    }

    private static DreamFort withTexts(int n) {
        DreamFort x = new DreamFort();
        for (int i = 1; i <= n; i++) {
            Check.put(x, "night " + i);
            x.fortress();
        }
        return x;
    }

    private void fortressRefused() {
        b.says(4, "IllegalArgumentException: it is wrong; UnsupportedOperationException: there are 12.");
        DreamFort x = withTexts(11);
        Check.put(x, "night 12");
        b.is("the 12th", x.fortress(), 12);
        x.strict(5);
        for (String right : new String[] {"night 13", "", "  ", "prisoner years 1"}) {
            Check.put(x, right);
            b.refusesTape(x, UnsupportedOperationException.class, "a 13th <" + right + ">", x::fortress);
            b.is("it was read, and has no wrong byte", x.fault(), -1);
        }
        Check.put(x, "night 13;");
        b.refusesTape(x, Bounds.NO_NUMBER, "a wrong 13th: what is told first", x::fortress);
        b.is("its fault", x.fault(), 9);
        b.is("the act is remembered still", x.undo(), true);
        b.is("and undone", x.count(5), 2);
        DreamFort y = withTexts(11);
        y.image();
        y.fortress();
        y.back();
        b.is("a 12th from the image of 11", y.fortress(), 12);
        b.refusesTape(y, UnsupportedOperationException.class, "a 13th from the image of 11", y::fortress);
    }

    private void law() {
        b.says(5, "Uses the TAPE up: THE LAW: how many LINES.");
        DreamFort x = Check.made(SMALL);
        b.is("of an empty tape", x.law(), 0);
        Check.put(x, "fade");
        b.is("of one line", x.law(), 1);
        b.is("the tape", Bounds.tapeOf(x), 0);
        Check.put(x, times(12, "pull 1 if met"));
        b.is("of twelve lines", x.law(), 12);
        b.is("count", x.count(3), 12);
        b.is("it is no text of the fortress", x.count(2), 1);
        DreamFort y = withTexts(12);
        Check.put(y, "fade;fade");
        b.is("a law behind 12 texts", y.law(), 2);
        for (int i = 0; i < 13; i++) {
            b.is("laws are not counted", y.law(), 0);
        }
    }

    private void lawRefused() {
        b.says(5, "IllegalArgumentException: the text is wrong.");
        DreamFort x = new DreamFort();
        Check.put(x, "pull");
        b.refusesTape(x, Bounds.NO_NUMBER, "a wrong law ahead of any", x::law);
        b.is("there is none", x.count(3), -1);
        refusesLaw("pull 5;wake @");
        refusesLaw(times(12, "fade") + ";@fade");
    }

    private void fault() {
        b.says(6, "The first wrong byte of the latest text that was read; NONE without one, and ahead of any.");
        DreamFort x = new DreamFort();
        b.is("ahead of any", x.fault(), -1);
        Check.put(x, "?");
        b.refusesTape(x, Bounds.NO_NUMBER, "wrong at once", x::law);
        b.is("0", x.fault(), 0);
        Check.put(x, "night 1;" + " ".repeat(392));
        b.refusesTape(x, Bounds.NO_NUMBER, "wrong at its end", x::fortress);
        b.is("400", x.fault(), 400);
        Check.putRows(x, 9);
        b.refusesTape(x, Bounds.NO_NUMBER, "wrong rows", x::sworn);
        b.is("rows are no text", x.fault(), 400);
        Check.putRows(x, 0, 0, 0);
        b.refusesTape(x, Bounds.NO_NUMBER, "wrong rows of dreams", x::next);
        b.is("nor these", x.fault(), 400);
        x.sworn();
        b.is("nor right ones", x.fault(), 400);
        x.law();
        b.is("behind a right law", x.fault(), -1);
        Check.put(x, "night 1000");
        b.refusesTape(x, Bounds.NO_NUMBER, "a wrong text", x::fortress);
        b.is("6", x.fault(), 6);
        x.fortress();
        b.is("behind a right fortress", x.fault(), -1);
    }

    // ---- who there may be

    private void marks() {
        b.says(Bounds.TERMS, "MARKS 0 to 5 (letters a to f).");
        for (int m = 0; m <= 5; m++) {
            DreamFort x = takes("prisoner years 1 marks " + (char) ('a' + m));
            b.is("the mark of a letter", x.prisoner(1, 1), 1 << m);
            b.is("who has it", x.mark(m) & 2, 2);
            int mark = m;
            b.is("told it", x.tell(0, 1, mark), 1);
            b.is("the bit of it", x.told(0, 1), 1 << mark);
        }
        b.is("all letters", takes("prisoner years 1 marks fedcba").prisoner(1, 1), 63);
        refuses("prisoner years 1 marks @g");
        refuses("prisoner years 1 marks @abcdefg");
        DreamFort x = Check.made("prisoner years 1 marks abcdef;sleeper sleep 1");
        b.refusesEach(x, Bounds.NO_SUCH, "mark", n -> () -> x.mark(n), -1, 6, Integer.MIN_VALUE, Integer.MAX_VALUE);
        b.refusesEach(x, Bounds.NO_SUCH, "tell", n -> () -> x.tell(0, 0, n), -1, 6, 32, Integer.MIN_VALUE, Integer.MAX_VALUE);
    }

    private void prisoners() {
        b.says(Bounds.TERMS, "PRISONERS (at most 6, numbered from 0 on): MARKS, as bits, YEARS 0 to 99, OUT or not (not at first).");
        DreamFort x = Check.made(FULL);
        b.is("six", x.count(0), 6);
        for (int p = 0; p < 6; p++) {
            b.is("years of " + p, x.prisoner(p, 0), 5);
            b.is("marks of " + p, x.prisoner(p, 1), 3);
            b.is("out of " + p, x.prisoner(p, 2), 0);
        }
        b.refusesEach(x, Bounds.NO_SUCH, "prisoner", n -> () -> x.prisoner(n, 0), -1, 6, Integer.MIN_VALUE, Integer.MAX_VALUE);
        Check.put(x, "night 1;prisoner years 1");
        b.refusesTape(x, Bounds.NO_NUMBER, "a 7th in a later text", x::fortress);
        refusesFortress("", times(6, "prisoner years 1") + ";@prisoner years 1");
        b.is("years 0", takes("prisoner years 0").prisoner(1, 0), 0);
        b.is("years 99", takes("prisoner years 99").prisoner(1, 0), 99);
        refuses("prisoner years @100");
        b.is("no marks", takes("prisoner years 0").prisoner(1, 1), 0);
    }

    private void sleepers() {
        b.says(Bounds.TERMS, "SLEEPERS (at most 6, numbered from 0 on): SLEEP 0 to 100, CHEESE 0 to 9 (0 at first),");
        DreamFort x = Check.made(FULL);
        b.is("six", x.count(1), 6);
        for (int s = 0; s < 6; s++) {
            b.is("sleep of " + s, x.sleeper(s, 0), 50);
            b.is("cheese of " + s, x.sleeper(s, 1), 0);
        }
        b.refusesEach(x, Bounds.NO_SUCH, "sleeper", n -> () -> x.sleeper(n, 0), -1, 6, Integer.MIN_VALUE, Integer.MAX_VALUE);
        Check.put(x, "night 1;sleeper sleep 1");
        b.refusesTape(x, Bounds.NO_NUMBER, "a 7th in a later text", x::fortress);
        refusesFortress("", times(6, "sleeper sleep 1") + ";@sleeper sleep 1");
        b.is("sleep 0", takes("sleeper sleep 0").sleeper(1, 0), 0);
        b.is("sleep 100", takes("sleeper sleep 100").sleeper(1, 0), 100);
        refuses("sleeper sleep @101");
        b.is("cheese 0", takes("sleeper sleep 1 cheese 0").sleeper(1, 1), 0);
        b.is("cheese 9", takes("sleeper sleep 1 cheese 9").sleeper(1, 1), 9);
        refuses("sleeper sleep 1 cheese @10");
    }

    private void sleepersAtFirst() {
        b.says(Bounds.TERMS, "AWAKE or not (not at first), of each PRISONER: MET or not (not at first) and TOLD: MARKS of his that they were"
                + " told, as bits (none at first).");
        DreamFort x = Check.made(FULL);
        b.is("awake ones", x.awake(), 0);
        for (int s = 0; s < 6; s++) {
            b.is("awake", x.sleeper(s, 2), 0);
            b.is("met", x.sleeper(s, 3), 0);
            for (int p = 0; p < 6; p++) {
                b.is("told", x.told(s, p), 0);
            }
        }
        b.is("marks told", x.count(7), 0);
        DreamFort y = Check.made("sleeper sleep 1;sleeper sleep 1 awake");
        y.wake(0);
        Check.put(y, "sleeper sleep 1;prisoner years 1 marks a");
        y.fortress();
        b.is("a later one is not awake, and those who were are", y.awake(), 3);
        b.is("nobody met a later prisoner", y.sleeper(0, 3) + y.sleeper(1, 3) + y.sleeper(2, 3), 0);
        b.is("nobody was told of him", y.told(0, 0) + y.told(1, 0) + y.told(2, 0), 0);
    }

    private void strictness() {
        b.says(Bounds.TERMS, "STRICT 1 to 6 (2 at first).");
        b.is("at first", new DreamFort().count(5), 2);
        b.is("1", takes("strict 1").count(5), 1);
        b.is("6", takes("strict 6").count(5), 6);
        refuses("strict @0");
        refuses("strict @7");
    }

    private void nightNumbers() {
        b.says(Bounds.TERMS, "NIGHT 0 to 9999 (0 at first).");
        b.is("at first", new DreamFort().count(4), 0);
        DreamFort x = takes("night 999");
        for (int i = 0; i < 149; i++) {
            x.nights(60);
        }
        x.nights(59);
        b.is("9998", x.count(4), 9998);
        x.nights(1);
        b.is("9999", x.count(4), 9999);
        x.nights(1);
        b.is("no more", x.count(4), 9999);
        x.nights(60);
        b.is("nor by sixty", x.count(4), 9999);
        Check.put(x, "night 0");
        x.fortress();
        b.is("told to be 0", x.count(4), 0);
    }

    // ---- texts of the fortress

    private void twelveTexts() {
        b.says(Bounds.TERMS, "THE FORTRESS is told in texts (at most 12, one behind another):");
        DreamFort x = new DreamFort();
        for (int i = 1; i <= 6; i++) {
            Check.put(x, "prisoner years " + i);
            b.is("text", x.fortress(), 2 * i - 1);
            Check.put(x, "sleeper sleep " + i + " met " + (i - 1));
            b.is("text", x.fortress(), 2 * i);
        }
        for (int i = 0; i < 6; i++) {
            b.is("what an earlier text told: years", x.prisoner(i, 0), i + 1);
            b.is("what an earlier text told: sleep", x.sleeper(i, 0), i + 1);
            b.is("what an earlier text told: met", x.sleeper(i, 3), 1 << i);
        }
        Check.put(x, "night 1");
        b.refusesTape(x, UnsupportedOperationException.class, "a 13th", x::fortress);
    }

    private void fourteenLines() {
        b.says(Bounds.TERMS, "LINE { ; LINE }, at most 14:");
        b.is("one line", takes("night 1").count(4), 1);
        b.is("the last of two", takes("night 1;night 2").count(4), 2);
        b.is("the last of 14", takes(times(13, "night 1") + ";night 3").count(4), 3);
        refuses(times(14, "night 1") + ";@night 1");
        refuses(times(14, "night 1") + ";@");
        refuses("@;");
        refuses("@;night 1");
        refuses("night 1;@;night 1");
        refuses("night 1@,night 1");
        refuses("night 1 @night 1");
    }

    private void prisonerLines() {
        b.says(Bounds.TERMS, "prisoner years N [ marks T ] |");
        b.is("without marks", takes("prisoner years 7").prisoner(1, 1), 0);
        DreamFort x = takes("prisoner years 7 marks ef");
        b.is("years", x.prisoner(1, 0), 7);
        b.is("marks", x.prisoner(1, 1), 48);
        refuses("prisoner@");
        refuses("prisoner @7");
        refuses("prisoner @marks a");
        refuses("prisoner years@");
        refuses("prisoner years @marks a");
        refuses("prisoner years @;");
        refuses("prisoner years 7 marks@");
        refuses("prisoner years 7 marks @;night 1");
        refuses("prisoner years 7 marks @7");
        refuses("prisoner years 7 marks a @marks b");
        refuses("prisoner years 7 marks a @years 7");
        refuses("prisoner years 7 @a");
        refuses("prisoner years 7 @8");
        refuses("prisoner years @-1");
    }

    private void sleeperLines() {
        b.says(Bounds.TERMS, "sleeper sleep N [ cheese N ] [ met N ] [ awake ] |");
        String[] options = {" cheese 4", " met 0", " awake"};
        for (int set = 0; set < 8; set++) {
            StringBuilder line = new StringBuilder("sleeper sleep 70");
            for (int i = 0; i < 3; i++) {
                line.append((set >> i & 1) == 1 ? options[i] : "");
            }
            DreamFort x = takes(line.toString());
            b.is("sleep by " + line, x.sleeper(1, 0), 70);
            b.is("cheese by " + line, x.sleeper(1, 1), 4 * (set & 1));
            b.is("met by " + line, x.sleeper(1, 3), set >> 1 & 1);
            b.is("awake by " + line, x.sleeper(1, 2), set >> 2 & 1);
        }
        refuses("sleeper@");
        refuses("sleeper @70");
        refuses("sleeper sleep@");
        refuses("sleeper sleep @awake");
        refuses("sleeper sleep 70 cheese@");
        refuses("sleeper sleep 70 cheese @met 0");
        refuses("sleeper sleep 70 met@");
        refuses("sleeper sleep 70 met @awake");
        refuses("sleeper sleep 70 met 0 @cheese 4");
        refuses("sleeper sleep 70 awake @met 0");
        refuses("sleeper sleep 70 awake @cheese 4");
        refuses("sleeper sleep 70 cheese 4 @cheese 4");
        refuses("sleeper sleep 70 met 0 @met 0");
        refuses("sleeper sleep 70 awake @awake");
        refuses("sleeper sleep 70 met 0 @0");
    }

    private void toldLines() {
        b.says(Bounds.TERMS, "told N N T |");
        b.is("told", takes("told 0 0 b").told(0, 0), 2);
        refuses("told@");
        refuses("told @a");
        refuses("told 0@");
        refuses("told 0 @a");
        refuses("told 0 0@");
        refuses("told 0 0 @;");
        refuses("told 0 0 @0");
        refuses("told 0 0 a @b");
        refuses("told 0 0 @marks a");
    }

    private void strictLines() {
        b.says(Bounds.TERMS, "strict N |");
        b.is("the latest holds", takes("strict 5;strict 3").count(5), 3);
        refuses("strict@");
        refuses("strict @a");
        refuses("strict 3 @4");
        refuses("strict @999");
    }

    private void nightLines() {
        b.says(Bounds.TERMS, "night N.");
        b.is("the latest holds", takes("night 5;night 3").count(4), 3);
        refuses("night@");
        refuses("night @a");
        refuses("night 3 @4");
        b.says(Bounds.TERMS, "night 0 to 999.)");
        b.is("0", takes("night 7;night 0").count(4), 0);
        b.is("999", takes("night 999").count(4), 999);
        refuses("night @1000");
        refuses("night @9999");
        refuses("night @-1");
    }

    private void letters() {
        b.says(Bounds.TERMS, "(T: letters a to f, none twice;");
        b.is("one", takes("prisoner years 1 marks d").prisoner(1, 1), 8);
        b.is("in any order", takes("prisoner years 1 marks dbe").prisoner(1, 1), 26);
        b.is("six", takes("prisoner years 1 marks abcdef").prisoner(1, 1), 63);
        b.is("letters that are a word elsewhere", takes("prisoner years 1 marks fade").prisoner(1, 1), 57);
        refuses("prisoner years 1 marks @aa");
        refuses("prisoner years 1 marks @abcdefa");
        refuses("prisoner years 1 marks @abcb");
        refuses("prisoner years 1 marks @z");
        refuses("prisoner years 1 marks @A");
        refuses("prisoner years 1 marks a@B");
        refuses("prisoner years 1 marks ab@1");
        refuses("told 0 0 @aba");
        refuses("told 0 0 @bb");
    }

    private void metWhom() {
        b.says(Bounds.TERMS, "met: the number of a PRISONER that there is by then;");
        b.is("the one of an earlier text", takes("sleeper sleep 1 met 0").sleeper(1, 3), 1);
        b.is("the one of the line before", takes("prisoner years 1;sleeper sleep 1 met 1").sleeper(1, 3), 2);
        b.is("by three digits", takes("sleeper sleep 1 met 000").sleeper(1, 3), 1);
        refuses("sleeper sleep 1 met @1");
        refuses("sleeper sleep 1 met @1;prisoner years 1");
        refuses("sleeper sleep 1 met @999");
        refusesFortress("", "sleeper sleep 1 met @0");
        refusesFortress("", "sleeper sleep 1 met @0;prisoner years 1");
        refusesFortress(times(6, "prisoner years 1"), "sleeper sleep 1 met @6");
        DreamFort x = Check.made(times(6, "prisoner years 1") + ";sleeper sleep 1 met 5");
        b.is("the sixth", x.sleeper(0, 3), 32);
    }

    private void toldWhom() {
        b.says(Bounds.TERMS, "told: a SLEEPER and a PRISONER that there are by then,");
        DreamFort x = takes("prisoner years 1 marks c;sleeper sleep 1;told 1 1 c;told 0 1 c;told 1 0 b");
        b.is("those of this text", x.told(1, 1), 4);
        b.is("one of an earlier text and one of this", x.told(0, 1), 4);
        b.is("one of this text and one of an earlier", x.told(1, 0), 2);
        refuses("told @1 0 a");
        refuses("told 0 @1 a");
        refuses("told @1 1 a");
        refuses("told @1 0 a;sleeper sleep 1");
        refuses("told 0 @1 a;prisoner years 1 marks a");
        refusesFortress("", "told @0 0 a");
        refusesFortress("sleeper sleep 1", "told 0 @0 a");
        refusesFortress("prisoner years 1 marks a", "told @0 0 a");
        refusesFortress(FULL, "told @6 0 a");
        refusesFortress(FULL, "told 0 @6 a");
        DreamFort y = Check.made(FULL);
        Check.put(y, "told 5 5 ab");
        y.fortress();
        b.is("the sixth of the sixth", y.told(5, 5), 3);
        b.is("of these alone", y.count(7), 2);
    }

    private void toldOfHisMarks() {
        b.says(Bounds.TERMS, "T: of his MARKS alone, else it is wrong at T;");
        b.is("all of his", takes("told 0 0 ba").told(0, 0), 3);
        refuses("told 0 0 @c");
        refuses("told 0 0 @abc");
        refuses("told 0 0 @ca");
        refusesFortress("prisoner years 1;sleeper sleep 1", "told 0 0 @a");
        b.says(Bounds.TERMS, "those are TOLD, too;");
        DreamFort x = takes("told 0 0 a;told 0 0 b");
        b.is("b beside a", x.told(0, 0), 3);
        Check.put(x, "told 0 0 a");
        x.fortress();
        b.is("a again", x.told(0, 0), 3);
    }

    private void digits() {
        b.says(Bounds.TERMS, "Numbers are of 1 to 3 digits.");
        b.is("1", takes("prisoner years 7").prisoner(1, 0), 7);
        b.is("2", takes("prisoner years 07").prisoner(1, 0), 7);
        b.is("3", takes("prisoner years 007").prisoner(1, 0), 7);
        refuses("prisoner years @0007");
        refuses("prisoner years @7777777777777777777");
        refuses("sleeper sleep @0000");
        refuses("sleeper sleep 1 cheese @0001");
        refuses("sleeper sleep 1 met @0000");
        refuses("told @0000 0 a");
        refuses("told 0 @0000 a");
        refuses("strict @0001");
        refuses("night @0001");
        refuses("night @4294967297");
    }

    // ---- the law

    private void lawInPlace() {
        b.says(Bounds.TERMS, "THE LAW (a text, in place of the one before):");
        DreamFort x = Check.made("prisoner years 1 marks ab;sleeper sleep 50;told 0 0 a", "pull 5;wake 10;fade");
        b.is("pull", x.pull(0, 0), 7);
        b.is("chance", x.sleeper(0, 4), 40);
        b.is("ahead", x.ahead(0, 0, 1), 0);
        Check.put(x, "pull 1");
        b.is("another law", x.law(), 1);
        b.is("its pull alone", x.pull(0, 0), 3);
        b.is("no wake any more", x.sleeper(0, 4), 50);
        b.is("no fade any more", x.ahead(0, 0, 60), 1);
        b.is("a law without lines", x.law(), 0);
        b.is("no pull of a law any more", x.pull(0, 0), 2);
    }

    private void twelveLines() {
        b.says(Bounds.TERMS, "LINE { ; LINE }, at most 12:");
        takesLaw("pull 1", 1);
        takesLaw(times(12, "wake 1 if met"), 12);
        DreamFort x = Check.made("prisoner years 1 marks ab;sleeper sleep 50;told 0 0 a", times(11, "pull 100") + ";pull 99");
        b.is("all twelve hold", x.pull(0, 0), 1201);
        refusesLaw(times(12, "fade") + ";@fade");
        refusesLaw(times(12, "fade") + ";@");
        refusesLaw("@;");
        refusesLaw("fade;@;fade");
        refusesLaw("fade @fade");
        refusesLaw("fade;@");
        refusesLaw("@5");
        refusesLaw("@5 if met");
        refusesLaw("fade;@5");
        manyLaws();
    }

    /** However many laws were read before, the latest holds with all its lines. */
    private void manyLaws() {
        DreamFort x = Check.made("prisoner years 1 marks ab;sleeper sleep 50;told 0 0 a");
        for (int i = 0; i < 20; i++) {
            Check.put(x, "pull 1 if 0" + "+1".repeat(100) + ">99;pull 2 if 0" + "+1".repeat(60) + ">60;pull " + i);
            b.is("law " + i, x.law(), 3);
            b.is("its pull", x.pull(0, 0), 3 + i);
        }
    }

    private void pullLines() {
        b.says(Bounds.TERMS, "pull N [ if C ] |");
        takesLaw("pull 0", 1);
        takesLaw("pull 0 if met", 1);
        refusesLaw("pull@");
        refusesLaw("pull @if met");
        refusesLaw("pull 5 if@");
        refusesLaw("pull 5 @met");
        refusesLaw("pull 5 @6");
        refusesLaw("pull 5 if met @if met");
    }

    private void wakeLines() {
        b.says(Bounds.TERMS, "wake N [ if C ] |");
        takesLaw("wake 0", 1);
        takesLaw("wake 0 if met", 1);
        refusesLaw("wake@");
        refusesLaw("wake @if met");
        refusesLaw("wake 5 if @;fade");
        refusesLaw("@awake 5");
    }

    private void fadeLines() {
        b.says(Bounds.TERMS, "fade [ if C ].");
        takesLaw("fade", 1);
        takesLaw("fade if awake", 1);
        refusesLaw("fade @1");
        refusesLaw("fade if@");
        refusesLaw("fade @met");
    }

    private void conditions() {
        b.says(Bounds.TERMS, "C: ALL { or ALL };");
        holds("1<2", true);
        holds("2<1", false);
        holds("2<1 or 1<2", true);
        holds("2<1 or 2<1 or 1<2", true);
        holds("2<1 or 2<1 or 2<1", false);
        holds("1<2 or 1<2 and 2<1", true);
        holds("2<1 and 1<2 or 1<2", true);
        refusesLaw("fade if met or@");
        refusesLaw("fade if @or met");
        refusesLaw("fade if met or @or met");
        b.is("64 of them", pullBy("2<1" + "or 2<1".repeat(62) + "or 1<2"), 9);
    }

    /** The pull by a line of 7 with that condition, which may fill the tape, where one mark was told. */
    private static int pullBy(String condition) {
        return Check.made("prisoner years 1 marks a;sleeper sleep 1;told 0 0 a", "pull 7 if " + condition).pull(0, 0);
    }

    private void alls() {
        b.says(Bounds.TERMS, "ALL: ATOM { and ATOM };");
        holds("1<2 and 1<2", true);
        holds("1<2 and 2<1", false);
        holds("2<1 and 1<2", false);
        holds("1<2 and 1<2 and 2<1", false);
        holds("1<2 and 1<2 and 1<2", true);
        refusesLaw("fade if met and@");
        refusesLaw("fade if @and met");
        refusesLaw("fade if met and @and met");
        refusesLaw("fade if met and @or met");
        b.is("55 of them", pullBy("1<2" + "and 1<2".repeat(54)), 9);
    }

    private void atoms() {
        b.says(Bounds.TERMS, "ATOM: not ATOM | ( C ) | met | shared | awake | SUM < SUM | SUM > SUM.");
        holds("not 2<1", true);
        holds("not 1<2", false);
        holds("not not 1<2", true);
        holds("not 2<1 and 1<2", true);
        holds("not 1<2 or 1<2", true);
        holds("not (1<2 or 1<2)", false);
        holds("(1<2)", true);
        holds("(1<2 or 1<2) and 2<1", false);
        holds("met", false);
        holds("shared", false);
        holds("awake", false);
        holds("1<1", false);
        holds("1>1", false);
        holds("0<1", true);
        holds("1>0", true);
        refusesLaw("fade if not@");
        refusesLaw("fade if (@");
        refusesLaw("fade if (@)");
        refusesLaw("fade if (met@");
        refusesLaw("fade if met@)");
        refusesLaw("fade if (met @;fade");
        refusesLaw("fade if 1@");
        refusesLaw("fade if 1 @and met");
        refusesLaw("fade if 1 <@");
        refusesLaw("fade if 1 < @met");
        refusesLaw("fade if 1 < 2 @< 3");
        refusesLaw("fade if 1 @= 2");
        refusesLaw("fade if 1 <@= 2");
        refusesLaw("fade if met @< 2");
        refusesLaw("fade if (1@) < 2");
        refusesLaw("fade if @< 2");
    }

    private void sums() {
        b.says(Bounds.TERMS, "SUM: PART { + PART };");
        holds("1+1>1", true);
        holds("1+1+1>2", true);
        holds("1+1+1>3", false);
        holds("3<1+1+1", false);
        holds("2<1+1+1", true);
        holds("999+999+999>999+999+998", true);
        refusesLaw("fade if 1 +@");
        refusesLaw("fade if 1 + @< 2");
        refusesLaw("fade if 1 + @+ 1 < 2");
        refusesLaw("fade if @+ 1 < 2");
        refusesLaw("fade if 1 > 1 +@");
        refusesLaw("fade if 1 @- 1 < 2");
        b.is("193 parts that are more", pullBy("0" + "+1".repeat(192) + ">191"), 9);
        b.is("193 parts that are not more", pullBy("0" + "+1".repeat(192) + ">192"), 2);
    }

    private void parts() {
        b.says(Bounds.TERMS, "PART: NUMBER | sleeper | prisoner | sleep | cheese | years | marks | told.");
        String[] words = {"sleeper", "prisoner", "sleep", "cheese", "years", "marks", "told", "17"};
        int[] due = {1, 1, 40, 3, 20, 3, 1, 17};
        for (int i = 0; i < words.length; i++) {
            holds(words[i] + " > " + (due[i] - 1) + " and " + words[i] + " < " + (due[i] + 1), true);
            holds(words[i] + " > " + due[i] + " or " + words[i] + " < " + due[i], false);
        }
        String[] nones = {"strict", "night", "out", "met", "shared", "awake", "pull", "wake", "fade", "if", "or", "and", "not", "chance", "a", "(",
            ")", "<", ">", "+", ";", "=", "-"};
        for (String none : nones) {
            refusesLaw("fade if 1 < @" + none + " 1");
            refusesLaw("fade if 1 + @" + none + " 1 < 2");
        }
    }

    private void lawNumbers() {
        b.says(Bounds.TERMS, "All numbers are of 1 to 3 digits (N 0 to 100).");
        String house = "prisoner years 1 marks ab;sleeper sleep 100;told 0 0 a";
        b.is("pull 0", Check.made(house, "pull 0").pull(0, 0), 2);
        b.is("pull 100", Check.made(house, "pull 100").pull(0, 0), 102);
        b.is("pull 007", Check.made(house, "pull 007").pull(0, 0), 9);
        b.is("wake 0", Check.made(house, "wake 0").sleeper(0, 4), 100);
        b.is("wake 100", Check.made(house, "wake 100").sleeper(0, 4), 0);
        refusesLaw("pull @101");
        refusesLaw("pull @999");
        refusesLaw("pull @0001");
        refusesLaw("wake @101");
        refusesLaw("wake @0100");
        holds("999 > 998", true);
        holds("000 < 001", true);
        refusesLaw("fade if @1000 > 1");
        refusesLaw("fade if @0000 < 1");
        refusesLaw("fade if 1 > @1000");
        refusesLaw("fade if 1 + @1000 > 1");
    }

    private void facts() {
        b.says(Bounds.TERMS, "Of a SLEEPER and a PRISONER: marks, told: how many MARKS he has, are TOLD of him; met: that one MET him;");
        String law = "pull 1 if marks > 5;pull 2 if told > 5;pull 4 if marks < 1;pull 8 if told < 2;pull 16 if met;pull 32 if not met";
        DreamFort x = Check.made("prisoner years 1 marks abcdef;prisoner years 1 marks c;sleeper sleep 1;sleeper sleep 1 met 0;"
                + "told 0 0 abcdef;told 1 0 f;told 1 1 c", law);
        b.is("six of six", x.pull(0, 0), 12 + 1 + 2 + 32);
        b.is("one of six, of one that it met", x.pull(1, 0), 2 + 1 + 8 + 16);
        b.is("one of one, not met", x.pull(1, 1), 2 + 8 + 32);
        b.says(Bounds.TERMS, "shared: another SLEEPER was TOLD some MARK of his (whichever).");
        DreamFort y = Check.made("prisoner years 1 marks ab;prisoner years 1 marks ab;sleeper sleep 1;sleeper sleep 1;told 0 0 a",
                "pull 5 if shared;pull 50 if not not shared;pull 0 if not shared");
        b.is("not by itself", y.pull(0, 0), 2);
        y.tell(1, 1, 0);
        b.is("not by what is told of another", y.pull(0, 0), 2);
        b.is("nor of that other", y.pull(1, 1), 2);
        y.tell(1, 0, 1);
        b.is("by another mark of his", y.pull(0, 0), 57);
        b.is("both ways", y.pull(1, 0), 57);
        y.forget(0);
        b.is("not when the other forgot", y.pull(1, 0), 2);
        DreamFort z = Check.made("prisoner years 1 marks a;prisoner years 1 marks a;sleeper sleep 1 met 0 awake;sleeper sleep 1;told 0 0 a;told 1 0 a;"
                + "told 0 1 a", "pull 1 if not met;pull 2 if not shared;pull 4 if not awake");
        b.is("met, shared, awake: none of the three", z.pull(0, 0), 2);
        b.is("neither met nor shared, but awake", z.pull(0, 1), 5);
        b.is("shared, neither met nor awake", z.pull(1, 0), 7);
    }

    // ---- words, blanks, depths

    private void words() {
        b.says(Bounds.TERMS, "Words are as long as a to z go on;");
        b.is("a number ends a word", takes("night5").count(4), 5);
        DreamFort x = takes("prisoner years 7marks ab;sleeper sleep9cheese8met0awake;told 1 0ab");
        b.is("a word ends a number", x.prisoner(1, 0), 7);
        b.is("cheese", x.sleeper(1, 1), 8);
        b.is("told", x.told(1, 0), 3);
        refuses("@sleepersleep 5");
        refuses("@nights 5");
        refuses("@nigh");
        refuses("@nighta 5");
        refuses("@nightz 5");
        refuses("@znight 5");
        refuses("night@{5");
        refuses("night@`5");
        refuses("night 5@/");
        refuses("night 5@:");
        refuses("prisoner @yearsold 5");
        refuses("sleeper sleep 5 @awakes");
        refuses("@nIght 5");
        takesLaw("pull5if1<2or met", 1);
        takesLaw("fade if not(met)and(met)or not met", 1);
        refusesLaw("fade if @metor met");
        refusesLaw("fade if @notmet");
        refusesLaw("fade @iff met");
        refusesLaw("@fadeif met");
    }

    private void blanks() {
        b.says(Bounds.TERMS, "between all there may be blanks (32), also ahead and behind.");
        b.is("many", takes("   night   5   ;  night    6   ").count(4), 6);
        b.is("392 behind", takes("night 77" + " ".repeat(392)).count(4), 77);
        b.is("392 ahead", takes(" ".repeat(392) + "night 77").count(4), 77);
        b.is("none", takes("night8;night9").count(4), 9);
        refuses("night@\t5");
        refuses("night 5@\n");
        refuses("@\0night 5");
        refuses("night@" + (char) 160 + "5");
        refuses("night 5 @5");
        refuses("@ni ght 5");
        takesLaw("  pull  5  if  (  met  )  or  1  +  1  <  2  ;  fade  ", 2);
        takesLaw("pull 5if(met)or 1+1<2;fade", 2);
        refusesLaw("fade if 1 <@\t2");
        refusesLaw("pull 1 @0");
        refusesLaw("@f ade");
    }

    private void emptyTexts() {
        b.says(Bounds.TERMS, "A text that is empty, or blanks alone, has no LINE.");
        for (String text : new String[] {"", " ", " ".repeat(400)}) {
            DreamFort x = Check.made(SMALL);
            Check.put(x, text);
            b.is("a fortress of " + text.length() + " blanks", x.fortress(), 2);
            b.is("nothing is told by it", x.count(0) + x.count(1), 2);
            b.is("no fault", x.fault(), -1);
            Check.put(x, text);
            b.is("a law of " + text.length() + " blanks", x.law(), 0);
            b.is("its lines", x.count(3), 0);
            b.is("no fault in it", x.fault(), -1);
        }
    }

    private void sixDeep() {
        b.says(Bounds.TERMS, "( and not within one another at most 6 deep.");
        holds("((((((1<2))))))", true);
        holds("not not not not not not 1<2", true);
        holds("not not not not not 1<2", false);
        holds("not (not (not (1<2)))", false);
        holds("(not (not (not 2<1)))", true);
        holds("((((((1<2)))))) and ((((((1<2)))))) or not not not not not not 1<2", true);
        holds("(((((not 2<1 and not 2<1 or (1<2)) and not 2<1) or (1<2)))) and not 2<1", true);
        holds("((((((1<2)))))) and ((((((2<1))))))", false);
    }

    // ---- the first wrong byte

    private void firstWrongThing() {
        b.says(Bounds.TERMS, "The first wrong byte: the begin of the first thing that cannot stand there");
        refuses("  @wrong and more wrong");
        refuses("night 5;strict @9;night 5000;x");
        refuses("night 5   @)");
        refusesLaw("pull 5;  @pulls 5;x");
        refusesLaw("fade if met   @+ 1 < 2");
        refusesLaw("@" + ";".repeat(400));
        refusesLaw("@" + (char) 255);
    }

    private void wrongNumbers() {
        b.says(Bounds.TERMS, "(a number of more digits, or out of its bounds, or that tells none that can be;");
        refuses("prisoner years   @1000;x");
        refuses("prisoner years   @100;x");
        refuses("sleeper sleep 5 met   @3 awake;x");
        refuses("told   @3 5 z");
        refuses("told 0   @5 z");
        refusesLaw("pull   @1000;x");
        refusesLaw("pull   @101;x");
        refusesLaw("pull @" + "0".repeat(395));
    }

    private void wrongLetters() {
        b.says(Bounds.TERMS, "letters that are none such;");
        refuses("prisoner years 5 marks   @abcdeg;x");
        refuses("prisoner years 5 marks   @abcdea;x");
        refuses("told 0 0   @abc;x");
        refuses("told 0 0   @night");
    }

    private void wrongWords() {
        b.says(Bounds.TERMS, "a word that is none;");
        refuses("@guard years 5");
        refuses("prisoner @sleep 5");
        refuses("sleeper @years 5");
        refuses("sleeper sleep 5 @told 5");
        refuses("@pull 5");
        refuses("@marks a");
        refuses("@a");
        refusesLaw("@night 5");
        refusesLaw("@if met");
        refusesLaw("fade if @asleep");
        refusesLaw("fade if @pull");
        refusesLaw("@" + "a".repeat(400));
    }

    private void seventhDeep() {
        b.says(Bounds.TERMS, "the ( or not that is a 7th one deep;");
        refusesLaw("fade if ((((((@(met)))))))");
        refusesLaw("fade if not not not not not not @not met");
        refusesLaw("fade if ((((((@not met))))))");
        refusesLaw("fade if not not not not not not @(met)");
        refusesLaw("fade if ((((((met and @not met))))))");
        refusesLaw("fade if ((((((met)))))) and ((((((@(");
        refusesLaw("fade if (not (not (not   @(wrong");
        refusesLaw("fade if ((((((@" + "(".repeat(386));
    }

    private void tooMany() {
        b.says(Bounds.TERMS, "of a LINE, a PRISONER, a SLEEPER too many, the first word),");
        refuses(times(14, "night 1") + ";  @night 1");
        refuses(times(14, "night 1") + ";  @wrong");
        refusesLaw(times(12, "fade") + ";  @pull 5");
        refusesLaw(times(12, "fade") + ";  @pull 5000");
        refusesFortress(FULL, "night 1;  @prisoner years 5");
        refusesFortress(FULL, "  @prisoner wrong");
        refusesFortress(FULL, "@prisoner");
        refusesFortress(FULL, "night 1;  @sleeper sleep 5");
        refusesFortress(FULL, "  @sleeper wrong");
        refusesFortress(FULL, "@sleeper");
        DreamFort x = Check.made(FULL);
        Check.put(x, times(14, "night 4"));
        b.is("14 lines in a full house", x.fortress(), 2);
        DreamFort y = Check.made(FULL + ";night 4;night 5");
        b.is("14 lines that fill the house", y.count(0) * 10 + y.count(1), 66);
    }

    private void moreMustCome() {
        b.says(Bounds.TERMS, "or the text's length, if more must come.");
        refuses("prisoner@");
        refuses("prisoner   @");
        refuses("prisoner years 5 marks  @");
        refuses("night 5;@");
        refuses("night 5;   @");
        refuses("told 0 0  @");
        refuses("night 5;" + " ".repeat(392) + "@");
        refusesLaw("pull  @");
        refusesLaw("fade if  @");
        refusesLaw("fade if (met  @");
        refusesLaw("fade if 1 +  @");
        refusesLaw("fade if not  @");
        refusesLaw("fade if " + "met or ".repeat(56) + "@");
    }

    private void nothingStays() {
        b.says(Bounds.TERMS, "Of a wrong text nothing stays.");
        refuses("prisoner years 9 marks f;sleeper sleep 9 met 1 awake;told 0 0 ab;told 1 1 f;strict 5;night 500;@x");
        refuses("prisoner years 9 marks f;sleeper sleep 9 met 1 awake;told 0 0 ab;told 1 1 f;strict 5;night @1000");
        refuses("strict 5;strict @7");
        refuses("sleeper sleep 9 awake @x");
        refusesLaw("pull 100;wake 50;fade;@x");
        DreamFort x = Check.made(SMALL);
        Check.put(x, "sleeper sleep 9 awake;night");
        b.refusesTape(x, Bounds.NO_NUMBER, "a wrong text", x::fortress);
        Check.put(x, "sleeper sleep 8");
        x.fortress();
        b.is("a right one behind it: nobody is awake", x.awake(), 0);
        b.is("sleep", x.sleeper(1, 0), 8);
    }
}
