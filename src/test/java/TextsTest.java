/** Promises 1 to 6: a new object, feed, end, fortress, law, fault. */
public final class TextsTest {
    private static final Check CHECK = new Check("TextsTest");

    public static void main(String[] args) {
        newObject();
        tape();
        fortressTexts();
        wrongFortresses();
        tooMany();
        lawTexts();
        wrongLaws();
        CHECK.finish();
    }

    private static void newObject() {
        DreamFort x = new DreamFort();
        int[] counts = {0, 0, 0, -1, 0, 2, 0, 0, 0, 0};
        for (int i = 0; i < counts.length; i++) {
            CHECK.due("a new object's count(" + i + ")", x.count(i), counts[i]);
        }
        CHECK.due("NONE", DreamFort.NONE, -1);
        CHECK.due("a new object's fault", x.fault(), -1);
        CHECK.due("a new object's out", x.out(), 0);
        CHECK.due("a new object's longest", x.longest(), -1);
        CHECK.due("a new object's sound", x.sound(), -1);
        CHECK.due("a new object's undo", x.undo(), false);
        CHECK.due("a new object's back", x.back(), false);
        CHECK.due("a new object's seed", x.seed(1), 1);
        CHECK.noIndex("a new object's prisoner 0", () -> x.prisoner(0, 0));
        CHECK.noIndex("a new object's sleeper 0", () -> x.sleeper(0, 0));
    }

    private static void tape() {
        DreamFort x = new DreamFort();
        CHECK.due("end(0) of an empty tape", x.end(0), true);
        CHECK.due("end(1) of an empty tape", x.end(1), false);
        CHECK.due("end(-1)", x.end(-1), false);
        for (int i = 1; i <= 19; i++) {
            CHECK.due("feed", x.feed(0x20202020, 0x20202020, 0x20202020, 0x20202020, 0x20202020), 20 * i);
        }
        CHECK.due("end(380) of 380", x.end(380), true);
        CHECK.due("end(381) of 380", x.end(381), false);
        CHECK.due("feed to 400", x.feed(0x20202020, 0x20202020, 0x20202020, 0x20202020, 0x20202020), 400);
        CHECK.due("feed beyond 400", x.feed(1, 2, 3, 4, 5), -1);
        CHECK.due("end(399)", x.end(399), true);
        CHECK.due("feed from 399", x.feed(1, 2, 3, 4, 5), -1);
        CHECK.due("nothing came", x.end(400), false);
        x.end(381);
        CHECK.due("feed from 381", x.feed(1, 2, 3, 4, 5), -1);
        x.end(380);
        CHECK.due("feed from 380", x.feed(0x20202020, 0x20202020, 0x20202020, 0x20202020, 0x20202020), 400);
        x.end(399);
        CHECK.due("399 blanks are a text without lines", x.fortress(), 1);
        CHECK.due("the tape was used up", x.end(1), false);
        // "nigh" "t 12" "3   ", the highest byte first
        x.feed(0x6e696768, 0x74203132, 0x33202020, 0x61616161, 0x61616161);
        CHECK.due("end(11)", x.end(11), true);
        x.fortress();
        CHECK.due("the night that was fed", x.count(4), 123);
        x.feed(0x80ff7f01, -1, 0, 0, 0);
        CHECK.noArgument("bytes that are none of a text", () -> x.fortress());
        CHECK.due("the tape was used up by a wrong text", x.end(1), false);
    }

    private static void fortressTexts() {
        DreamFort x = Check.made("  prisoner  years 7marks fade ;prisoner years 099;sleeper sleep 100 cheese 9 met 1 awake;"
                + "sleeper sleep 0;told 1 0 ef;told 1 0 a ; strict 6;night 999 ");
        CHECK.due("texts", x.count(2), 1);
        CHECK.due("no fault", x.fault(), -1);
        CHECK.due("prisoners", x.count(0), 2);
        CHECK.due("sleepers", x.count(1), 2);
        CHECK.due("marks by the letters of fade", x.prisoner(0, 1), 1 + 8 + 16 + 32);
        CHECK.due("years 7", x.prisoner(0, 0), 7);
        CHECK.due("years 099", x.prisoner(1, 0), 99);
        CHECK.due("no marks", x.prisoner(1, 1), 0);
        CHECK.due("cheese 9", x.sleeper(0, 1), 9);
        CHECK.due("met 1", x.sleeper(0, 3), 2);
        CHECK.due("awake", x.awake(), 1);
        CHECK.due("sleep 0", x.sleeper(1, 0), 0);
        CHECK.due("told twice", x.told(1, 0), 1 + 16 + 32);
        CHECK.due("strict 6", x.count(5), 6);
        CHECK.due("night 999", x.count(4), 999);
        Check.put(x, "told 0 0 d;prisoner years 1 marks c;sleeper sleep 5 met 2;told 2 2 c");
        CHECK.due("a second text", x.fortress(), 2);
        CHECK.due("told of it", x.told(0, 0), 8);
        CHECK.due("told of the new ones", x.told(2, 2), 4);
        CHECK.due("the new one met", x.sleeper(2, 3), 4);
        CHECK.due("what was there stays", x.told(1, 0), 1 + 16 + 32);
        Check.put(x, "sleeper sleep 5 awake;sleeper sleep 5 awake");
        CHECK.due("a third text", x.fortress(), 3);
        CHECK.due("all that are awake", x.awake(), 1 + 8 + 16);
        Check.put(x, "sleepersleep 5");
        CHECK.noArgument("words that stick together", () -> x.fortress());
        CHECK.due("their fault", x.fault(), 0);
        Check.put(x, "strict 1;night 3;sleeper sleep 1;wrong");
        CHECK.noArgument("a text that is wrong at its end", () -> x.fortress());
        CHECK.due("nothing stays of it: sleepers", x.count(1), 5);
        CHECK.due("nothing stays of it: strict", x.count(5), 6);
        CHECK.due("nothing stays of it: texts", x.count(2), 3);
    }

    private static void wrongFortress(String text, int fault) {
        DreamFort x = Check.made("prisoner years 1 marks ab;sleeper sleep 1");
        Check.put(x, text);
        CHECK.noArgument("<" + text + ">", () -> x.fortress());
        CHECK.due("the fault of <" + text + ">", x.fault(), fault);
        CHECK.due("texts behind <" + text + ">", x.count(2), 1);
    }

    private static void wrongFortresses() {
        wrongFortress("prisoner", 8);
        wrongFortress("prisoner   ", 11);
        wrongFortress("prisoner age 3", 9);
        wrongFortress("prisoner years", 14);
        wrongFortress("prisoner years ten", 15);
        wrongFortress("prisoner years 100", 15);
        wrongFortress("prisoner years 0001", 15);
        wrongFortress("prisoner years 1 mark a", 17);
        wrongFortress("prisoner years 1 marks", 22);
        wrongFortress("prisoner years 1 marks 5", 23);
        wrongFortress("prisoner years 1 marks abg", 23);
        wrongFortress("prisoner years 1 marks aba", 23);
        wrongFortress("prisoner years 1 marks a b", 25);
        wrongFortress("prisoner years 1 marks A", 23);
        wrongFortress("prisoner years 1 2", 17);
        wrongFortress("prisoner years 1 marks az", 23);
        wrongFortress("sleeper", 7);
        wrongFortress("sleeper sleep", 13);
        wrongFortress("sleeper sleep 1 cheese", 22);
        wrongFortress("sleeper sleep 1 met", 19);
        wrongFortress("sleeper sleep 101", 14);
        wrongFortress("sleeper sleep 1 cheese 10", 23);
        wrongFortress("sleeper sleep 1 met 1", 20);
        wrongFortress("sleeper sleep 1 met 0 met 0", 22);
        wrongFortress("sleeper sleep 1 met 0 cheese 1", 22);
        wrongFortress("sleeper sleep 1 awake met 0", 22);
        wrongFortress("sleeper sleep 1 awake awake", 22);
        wrongFortress("told", 4);
        wrongFortress("told 0", 6);
        wrongFortress("told 1 0 a", 5);
        wrongFortress("strict", 6);
        wrongFortress("night", 5);
        wrongFortress("told 0 1 a", 7);
        wrongFortress("told 0 0", 8);
        wrongFortress("told 0 0 abc", 9);
        wrongFortress("told 0 0 aa", 9);
        wrongFortress("told 0 0 0", 9);
        wrongFortress("told 0 0 ;", 9);
        wrongFortress("strict 0", 7);
        wrongFortress("strict 7", 7);
        wrongFortress("night 1000", 6);
        wrongFortress("night\t1", 5);
        wrongFortress(";", 0);
        wrongFortress("night 1;;night 2", 8);
        wrongFortress("night 1; ", 9);
        wrongFortress("night 1 night 2", 8);
        wrongFortress("pull 1", 0);
        wrongFortress(" \0", 1);
    }

    private static String many(String line, int n) {
        String text = line;
        for (int i = 1; i < n; i++) {
            text += ";" + line;
        }
        return text;
    }

    private static void tooMany() {
        DreamFort x = new DreamFort();
        Check.put(x, many("prisoner years 1", 6) + ";" + many("sleeper sleep 1", 6) + ";" + many("night 1", 2));
        CHECK.due("14 lines", x.fortress(), 1);
        Check.put(x, many("night 1", 15));
        CHECK.noArgument("15 lines", () -> x.fortress());
        CHECK.due("the fault of 15 lines", x.fault(), 112);
        Check.put(x, many("night 1", 14) + ";");
        CHECK.noArgument("14 lines and a sign", () -> x.fortress());
        CHECK.due("the fault of 14 lines and a sign", x.fault(), 112);
        Check.put(x, "night 2; prisoner years 1000");
        CHECK.noArgument("a 7th prisoner", () -> x.fortress());
        CHECK.due("the fault of a 7th prisoner", x.fault(), 9);
        Check.put(x, "night 2;sleeper");
        CHECK.noArgument("a 7th sleeper", () -> x.fortress());
        CHECK.due("the fault of a 7th sleeper", x.fault(), 8);
        for (int i = 2; i <= 12; i++) {
            Check.put(x, "night " + i);
            CHECK.due("text " + i, x.fortress(), i);
        }
        x.strict(3);
        Check.put(x, "night 13");
        CHECK.dueThrow("a 13th text", UnsupportedOperationException.class, () -> x.fortress());
        CHECK.due("no 13th text stays", x.count(4), 12);
        CHECK.due("no fault in it", x.fault(), -1);
        CHECK.due("the tape was used up", x.end(1), false);
        CHECK.due("acts are remembered still", x.count(9), 1);
        Check.put(x, "night x");
        CHECK.noArgument("a 13th text that is wrong", () -> x.fortress());
        CHECK.due("its fault", x.fault(), 6);
        Check.put(x, "");
        CHECK.due("a law is no text of the fortress", x.law(), 0);
    }

    /** The pull of one mark told of a prisoner of 20 years and 3 marks, one told to 0 and two to 1, whom 1 met. */
    private static int pulled(String law, int sleeper) {
        DreamFort x = Check.made("prisoner years 20 marks abc;sleeper sleep 40 cheese 3;sleeper sleep 50 met 0 awake;"
                + "told 0 0 a;told 1 0 bc", law);
        return x.pull(sleeper, 0);
    }

    private static void lawTexts() {
        DreamFort x = new DreamFort();
        CHECK.due("lines without a law", x.count(3), -1);
        Check.put(x, "   ");
        CHECK.due("a law of blanks", x.law(), 0);
        CHECK.due("lines of a law of blanks", x.count(3), 0);
        Check.put(x, many("fade", 12));
        CHECK.due("a law of 12 lines", x.law(), 12);
        Check.put(x, "pull 3;wake 100 if not awake;fade if met");
        CHECK.due("a law in its place", x.law(), 3);
        CHECK.due("its lines", x.count(3), 3);
        CHECK.due("no law", pulled("", 0), 2);
        CHECK.due("two marks told", pulled("", 1), 4);
        CHECK.due("pull without if", pulled("pull 100;pull 0", 0), 102);
        CHECK.due("sums of lines that hold", pulled("pull 1 if met;pull 2 if shared;pull 4 if awake;pull 8 if told>1", 0), 4);
        CHECK.due("sums of lines that hold of 1", pulled("pull 1 if met;pull 2 if shared;pull 4 if awake;pull 8 if told>1", 1), 19);
        CHECK.due("wake and fade do not pull", pulled("wake 5;fade", 0), 2);
        CHECK.due("facts", pulled("pull 1 if sleeper<1 and prisoner<1 and sleep>39 and sleep<41 and cheese>2 and cheese<4"
                + " and years>19 and years<21 and marks>2 and marks<4 and told>0 and told<2", 0), 3);
        CHECK.due("the other's number", pulled("pull 7 if sleeper > 0", 1), 11);
        CHECK.due("and binds more than or", pulled("pull 9 if 1<2 or 1<2 and 2<1", 0), 11);
        CHECK.due("( binds most", pulled("pull 9 if (1<2 or 1<2) and 2<1", 0), 2);
        CHECK.due("not binds one atom", pulled("pull 9 if not 2<1 and 1<2", 0), 11);
        CHECK.due("not of (", pulled("pull 9 if not (2<1 or 1<2)", 0), 2);
        CHECK.due("sums", pulled("pull 9 if sleep+cheese+2<46 and 44<sleep + cheese + 2", 0), 11);
        CHECK.due("999", pulled("pull 9 if 999 > 998 and not 999>999 and not 999<999", 0), 11);
        CHECK.due("without blanks", pulled("pull9if1<2or(met)", 0), 11);
        CHECK.due("six deep", pulled("pull 9 if (not (not (not met)))", 0), 11);
        CHECK.due("six ( deep", pulled("pull 9 if ((((((1<2))))))", 0), 11);
        CHECK.due("six deep twice", pulled("pull 9 if not not not not not not 1<2 and not not not not not not 1<2", 0), 11);
    }

    private static void wrongLaw(String text, int fault) {
        DreamFort x = Check.made("", "pull 1;pull 2");
        Check.put(x, text);
        CHECK.noArgument("<" + text + ">", () -> x.law());
        CHECK.due("the fault of <" + text + ">", x.fault(), fault);
        CHECK.due("the law stays behind <" + text + ">", x.count(3), 2);
    }

    private static void wrongLaws() {
        wrongLaw("pull", 4);
        wrongLaw("pull 101", 5);
        wrongLaw("pull if met", 5);
        wrongLaw("wake 1000", 5);
        wrongLaw("fade 5", 5);
        wrongLaw("fade fade", 5);
        wrongLaw("fade if", 7);
        wrongLaw("fade if ", 8);
        wrongLaw("fade if told", 12);
        wrongLaw("fade if told = 1", 13);
        wrongLaw("fade if told <", 14);
        wrongLaw("fade if told < met", 15);
        wrongLaw("fade if told < 1 < 2", 17);
        wrongLaw("fade if told + < 1", 15);
        wrongLaw("fade if 1000 < 1", 8);
        wrongLaw("fade if 1 < 0001", 12);
        wrongLaw("fade if met + 1 > 2", 12);
        wrongLaw("fade if strict > 2", 8);
        wrongLaw("fade if (told) > 2", 13);
        wrongLaw("fade if met and", 15);
        wrongLaw("fade if met and or", 16);
        wrongLaw("fade if met or", 14);
        wrongLaw("fade if met or ;fade", 15);
        wrongLaw("fade if 1 +", 11);
        wrongLaw("fade if 1 > 1 +", 15);
        wrongLaw("fade if metand met", 8);
        wrongLaw("fade if met met", 12);
        wrongLaw("fade if (met", 12);
        wrongLaw("fade if (met;fade", 12);
        wrongLaw("fade if met)", 11);
        wrongLaw("fade if ()", 9);
        wrongLaw("fade if not", 11);
        wrongLaw("fade if (((((((met)))))))", 14);
        wrongLaw("fade if not(not(not(not met)))", 20);
        wrongLaw("fade if met;", 12);
        wrongLaw(";fade", 0);
        wrongLaw("Fade", 0);
        wrongLaw("prisoner years 1", 0);
        wrongLaw(many("fade", 13), 60);
        wrongLaw(many("fade", 12) + "; ", 61);
    }
}
