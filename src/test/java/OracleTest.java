import java.lang.reflect.InvocationTargetException;
import java.lang.reflect.Method;
import java.util.ArrayList;
import java.util.List;
import java.util.Random;

/** Random runs of calls, each answered by DreamFort and by the Oracle: all promises at once, wrong inputs too. */
public final class OracleTest {
    private static final String[] CALLS = {
        "prisoner:pw", "prisoner:pw", "sleeper:sw", "sleeper:sw", "told:sp", "pull:sp", "nights:N", "nights:N", "tell:spm", "tell:spm",
        "tell:spm", "tell:spm", "cheese:sC", "meet:sp", "wake:s", "wake:s", "strict:G", "retake:p", "retake:p", "forget:s", "within:pn",
        "soon:po", "need:sp", "need:sp", "cover:pK", "whom:pK", "outs:Pb", "outs:Pb", "sworn:", "likely:", "ask:",
        "rumour:B", "rumour:B", "next:", "next:", "like:pp", "twice:", "vain:", "never:", "beds:pn", "couples:S", "couples:S",
        "gossip:", "friends:ss", "rests:sp", "longest:", "out:", "awake:", "twins:", "mark:m", "sound:", "ahead:spn",
        "trial:nB", "span:nB", "led:pB", "log:aw", "log:aw", "seed:r", "undo:", "undo:", "image:", "back:", "count:w", "count:w",
        "fault:", "end:n", "fortress!", "law!", "law!"};

    private final Random random;
    private final DreamFort fort = new DreamFort();
    private final Oracle oracle = new Oracle();
    private final List<String> told = new ArrayList<>();
    private int wrong;

    private OracleTest(long seed) {
        random = new Random(seed);
    }

    public static void main(String[] args) throws Exception {
        int runs = args.length > 0 ? Integer.parseInt(args[0]) : 250;
        int first = args.length > 1 ? Integer.parseInt(args[1]) : 1;
        int wrong = 0;
        int calls = 0;
        for (int seed = first; seed < first + runs && wrong == 0; seed++) {
            OracleTest test = new OracleTest(seed);
            test.run();
            calls += test.told.size();
            wrong += test.wrong;
            if (test.wrong > 0) {
                System.out.println("OracleTest: the run of seed " + seed + " went apart:");
                for (String line : test.told) {
                    System.out.println("  " + line);
                }
            }
        }
        System.out.println("OracleTest: " + calls + " answers looked at, " + wrong + " wrong");
        if (wrong != 0) {
            System.exit(1);
        }
    }

    private void run() throws Exception {
        text("fortress", fortressText(true));
        for (int i = 0; i < 3 && oracle.z.prisoners.size() < 3; i++) {
            text("fortress", fortressText(true));
        }
        if (random.nextInt(5) > 0) {
            text("law", lawText());
        }
        tellAround(random.nextInt(40));
        while (told.size() < 460 && wrong == 0) {
            if (random.nextInt(25) == 0) {
                tellAround(random.nextInt(12));
            }
            String call = CALLS[random.nextInt(CALLS.length)];
            if (call.endsWith("!")) {
                String name = call.substring(0, call.length() - 1);
                text(name, mutated(name.equals("law") ? lawText() : fortressText(false)));
            } else {
                String name = call.substring(0, call.indexOf(':'));
                if (List.of("sworn", "likely", "ask").contains(name)) {
                    put(swornRows());
                } else if (List.of("rumour", "next").contains(name)) {
                    put(rumourRows());
                }
                call(name, arguments(call.substring(call.indexOf(':') + 1)));
            }
        }
    }

    /** Else most would be told of too little for any plan to be worth a look. */
    private void tellAround(int times) throws Exception {
        for (int i = 0; i < times && !oracle.z.prisoners.isEmpty() && !oracle.z.sleepers.isEmpty(); i++) {
            int p = random.nextInt(oracle.z.prisoners.size());
            int m = random.nextInt(6);
            if (oracle.z.prisoners.get(p).marks[m]) {
                call("tell", random.nextInt(oracle.z.sleepers.size()), p, m);
            }
        }
    }

    private int pick(int often, int most) {
        return random.nextInt(20) == 0 ? random.nextInt(most + 4) - 2 : random.nextInt(Math.max(1, often));
    }

    private Object[] arguments(String kinds) {
        Object[] given = new Object[kinds.length()];
        for (int i = 0; i < given.length; i++) {
            given[i] = argument(kinds.charAt(i));
        }
        return given;
    }

    private Object argument(char kind) {
        int prisoners = oracle.z.prisoners.size();
        int sleepers = oracle.z.sleepers.size();
        switch (kind) {
            case 'p':
                return pick(prisoners, 6);
            case 'P':
                return random.nextInt(3) == 0 ? -1 : pick(prisoners, 6);
            case 's':
                return pick(sleepers, 6);
            case 'S':
                return random.nextInt(3) == 0 ? -1 : pick(sleepers, 6);
            case 'm':
                return pick(6, 6);
            case 'w':
                return pick(10, 10);
            case 'N':
                return random.nextInt(3) == 0 ? pick(60, 61) : 1 + random.nextInt(4);
            case 'n':
                return pick(random.nextInt(10) == 0 ? 99 : 61, 99);
            case 'C':
                return random.nextInt(4) == 0 ? pick(10, 10) : 1;
            case 'K':
                return pick(7, 7);
            case 'G':
                return random.nextInt(4) == 0 ? pick(8, 8) : 1 + random.nextInt(3);
            case 'o':
                return random.nextInt(3) == 0 ? new int[] {0, -1, 10000, 10001}[random.nextInt(4)] : random.nextInt(10000);
            case 'b':
                return pick(random.nextBoolean() ? 10 : 37, 37);
            case 'a':
                return pick(Math.max(1, oracle.z.log.size()), 62);
            case 'r':
                return random.nextInt();
            default:
                return random.nextBoolean();
        }
    }

    private void call(String name, Object... given) throws Exception {
        Class<?>[] types = new Class<?>[given.length];
        for (int i = 0; i < given.length; i++) {
            types[i] = given[i] instanceof Integer ? int.class : boolean.class;
        }
        String got = answer(DreamFort.class.getMethod(name, types), fort, given);
        String due = answer(Oracle.class.getDeclaredMethod(name, types), oracle, given);
        told.add(name + List.of(given) + " = " + got);
        if (!got.equals(due)) {
            wrong++;
            told.add("  due is " + due);
        }
    }

    private static String answer(Method method, Object object, Object... given) throws Exception {
        try {
            return "" + method.invoke(object, given);
        } catch (InvocationTargetException e) {
            return e.getCause().getClass().getName();
        }
    }

    private void put(String bytes) throws Exception {
        told.add("tape <" + bytes + ">");
        Check.put(fort, bytes);
        oracle.tape = bytes.getBytes("ISO-8859-1");
        for (int i = 0; i < bytes.length(); i += 20) {
            told.add("feed");
        }
    }

    private void text(String name, String bytes) throws Exception {
        put(bytes);
        call(name);
        call("fault");
    }

    // ---- tapes

    private String swornRows() {
        StringBuilder rows = new StringBuilder();
        int n = random.nextInt(5);
        int prisoners = oracle.z.prisoners.size();
        int who = prisoners == 0 ? -1 : random.nextInt(prisoners);
        for (int i = 0; i < n; i++) {
            int mark = random.nextInt(6);
            boolean had = who < 0 || random.nextInt(4) == 0 ? random.nextBoolean() : oracle.z.prisoners.get(who).marks[mark];
            rows.append((char) mark).append((char) (had ? 1 : 0));
        }
        return spoiled(rows);
    }

    private String rumourRows() {
        StringBuilder rows = new StringBuilder();
        int sleepers = oracle.z.sleepers.size();
        for (int i = random.nextInt(4); i > 0 && sleepers > 0; i--) {
            int s = random.nextInt(sleepers);
            int dreamt = oracle.z.dream(s) == -1 ? 6 : oracle.z.dream(s);
            int prisoners = oracle.z.prisoners.size();
            rows.append((char) s).append((char) (random.nextInt(3) > 0 || prisoners == 0 ? dreamt : random.nextInt(prisoners)));
        }
        return spoiled(rows);
    }

    private String spoiled(StringBuilder rows) {
        if (random.nextInt(10) == 0) {
            rows.append((char) random.nextInt(8));
        }
        if (random.nextInt(10) == 0) {
            rows.append((char) random.nextInt(8)).append((char) random.nextInt(8));
        }
        if (random.nextInt(20) == 0) {
            rows.append((char) random.nextInt(256)).append((char) random.nextInt(256));
        }
        if (random.nextInt(20) == 0) {
            while (rows.length() < 38 + 2 * random.nextInt(3)) {
                rows.append((char) 0).append((char) 0);
            }
        }
        return rows.toString();
    }

    private String gap() {
        return random.nextInt(8) == 0 ? "   ".substring(random.nextInt(3)) : " ";
    }

    private String letters(int from) {
        StringBuilder letters = new StringBuilder();
        for (int m : new int[] {3, 0, 5, 1, 4, 2}) {
            if ((from >> m & 1) == 1 && random.nextInt(3) > 0) {
                letters.append((char) ('a' + m));
            }
        }
        return letters.length() == 0 && from != 0 ? "" + (char) ('a' + Integer.numberOfTrailingZeros(from)) : letters.toString();
    }

    private String fortressText(boolean first) {
        StringBuilder t = new StringBuilder();
        int prisoners = oracle.z.prisoners.size();
        int sleepers = oracle.z.sleepers.size();
        List<Integer> marks = new ArrayList<>();
        for (Oracle.Prisoner p : oracle.z.prisoners) {
            marks.add(Oracle.bits(p.marks));
        }
        int lines = first ? 9 + random.nextInt(6) : random.nextInt(4);
        for (int i = 0; i < lines; i++) {
            String line;
            int what = first && i < 9 ? new int[] {0, 0, 0, 1, 1, 1, 0, 1, 2}[i] : random.nextInt(7);
            if (what == 0) {
                String letters = letters(63);
                marks.add(random.nextInt(6) == 0 ? 0 : mask(letters));
                line = "prisoner years" + gap() + random.nextInt(random.nextBoolean() ? 100 : 8)
                        + (marks.get(prisoners) == 0 ? "" : gap() + "marks " + letters);
                prisoners++;
            } else if (what == 1) {
                sleepers++;
                line = "sleeper sleep " + new int[] {0, 10, 50, 80, 100, random.nextInt(101)}[random.nextInt(6)]
                        + (random.nextInt(3) == 0 ? " cheese " + random.nextInt(10) : "")
                        + (random.nextInt(3) == 0 && prisoners > 0 ? " met " + random.nextInt(prisoners) : "")
                        + (random.nextInt(5) == 0 ? gap() + "awake" : "");
            } else if (what < 5 && prisoners > 0 && sleepers > 0) {
                int p = random.nextInt(prisoners);
                line = "told" + gap() + random.nextInt(sleepers) + gap() + p + " " + (marks.get(p) == 0 ? "a" : letters(marks.get(p)));
            } else if (what == 5) {
                line = "strict " + (1 + random.nextInt(4));
            } else {
                line = "night" + gap() + random.nextInt(1000);
            }
            if (t.length() + line.length() < 395) {
                t.append(t.length() == 0 ? "" : ";").append(line);
            }
        }
        return t.toString();
    }

    private static int mask(String letters) {
        int mask = 0;
        for (char c : letters.toCharArray()) {
            mask |= 1 << (c - 'a');
        }
        return mask;
    }

    private String lawText() {
        StringBuilder t = new StringBuilder();
        int lines = random.nextInt(20) == 0 ? 13 : random.nextInt(8);
        for (int i = 0; i < lines; i++) {
            int what = random.nextInt(15) / 2;
            String line = what < 4 ? "pull " + random.nextInt(random.nextBoolean() ? 6 : 101)
                    : what < 6 ? "wake " + random.nextInt(random.nextBoolean() ? 30 : 101) : "fade";
            if (what >= 6 || random.nextInt(5) > 0) {
                line += gap() + "if " + condition(0);
            }
            if (t.length() + line.length() < 395) {
                t.append(t.length() == 0 ? "" : gap() + ";").append(line);
            }
        }
        return t.toString();
    }

    private String condition(int depth) {
        String c = all(depth);
        while (random.nextInt(5) == 0) {
            c += " or " + all(depth);
        }
        return c;
    }

    private String all(int depth) {
        String a = atom(depth);
        while (random.nextInt(4) == 0) {
            a += gap() + "and " + atom(depth);
        }
        return a;
    }

    private String atom(int depth) {
        switch (random.nextInt(depth > 6 ? 7 : 11)) {
            case 0:
                return "met";
            case 1:
                return "shared";
            case 2:
                return "awake";
            case 7:
            case 8:
                return "not " + atom(depth + 1);
            case 9:
            case 10:
                return "(" + condition(depth + 1) + ")";
            default:
                return sum() + (random.nextBoolean() ? "<" : " > ") + sum();
        }
    }

    private String sum() {
        String[] parts = {"sleeper", "prisoner", "sleep", "cheese", "years", "marks", "told", "told", "marks", "1", "2", "3", "0", "50",
            "" + random.nextInt(1000)};
        String s = parts[random.nextInt(parts.length)];
        while (random.nextInt(5) == 0) {
            s += gap() + "+" + parts[random.nextInt(parts.length)];
        }
        return s;
    }

    private String mutated(String text) {
        if (random.nextInt(3) > 0) {
            return text;
        }
        StringBuilder t = new StringBuilder(text);
        for (int n = 1 + random.nextInt(2); n > 0; n--) {
            int at = random.nextInt(t.length() + 1);
            String signs = "abcdefgz0123456789;()<>+ \t" + (char) 255 + "A";
            char sign = signs.charAt(random.nextInt(signs.length()));
            int how = random.nextInt(5);
            if (how == 0 && t.length() < 400) {
                t.insert(at, sign);
            } else if (how == 1) {
                t.setLength(at);
            } else if (at < t.length()) {
                if (how == 2) {
                    t.setCharAt(at, sign);
                } else {
                    int behind = Math.min(t.length(), at + 1 + random.nextInt(how == 3 ? 1 : 8));
                    t.delete(at, behind);
                }
            }
        }
        return t.toString();
    }
}
