import java.lang.reflect.InvocationTargetException;
import java.lang.reflect.Method;
import java.util.ArrayList;
import java.util.Arrays;
import java.util.List;

/**
 * Every call with every mixture of numbers at and beyond the edges, in full, small and empty fortresses: a call answers,
 * or throws what the document names for it and nothing else, and what throws changes nothing.
 */
public final class EdgesTest {
    private static final int[] NUMBERS = {Integer.MIN_VALUE, -2, -1, 0, 1, 2, 3, 4, 5, 6, 7, 8, 9, 10, 12, 36, 37, 60, 61, 99, 100, 10000, 10001,
        Integer.MAX_VALUE};
    private static int looked;
    private static int wrong;

    public static void main(String[] args) throws Exception {
        for (int kind = 0; kind < 4; kind++) {
            for (Method method : DreamFort.class.getMethods()) {
                if (method.getDeclaringClass() == DreamFort.class && !method.getName().equals("feed")) {
                    tryAll(kind, method);
                }
            }
        }
        fullTapes();
        System.out.println("EdgesTest: " + looked + " answers looked at, " + wrong + " wrong");
        if (wrong != 0) {
            System.exit(1);
        }
    }

    /** 0: new; 1: a full house; 2: a full house with a long night behind it; 3: sleepers alone. */
    private static DreamFort made(int kind) {
        if (kind == 0) {
            return new DreamFort();
        }
        if (kind == 3) {
            return Check.made("sleeper sleep 100;sleeper sleep 0 awake", "pull 1;wake 5;fade");
        }
        DreamFort x = Check.made("prisoner years 99 marks abcdef;prisoner years 0;prisoner years 1 marks a;prisoner years 2 marks bf;"
                + "prisoner years 3 marks ace;prisoner years 98 marks bdf;strict 1;sleeper sleep 100 cheese 9 met 5;sleeper sleep 0 awake;"
                + "sleeper sleep 50 met 0;sleeper sleep 100;sleeper sleep 100 cheese 9;sleeper sleep 100");
        Check.put(x, "told 0 0 abcdef;told 1 2 a;told 2 3 bf;told 3 4 ac;told 4 5 bdf;told 5 0 f;told 5 5 f;told 0 5 bdf;night 999");
        x.fortress();
        Check.put(x, "pull 100 if prisoner > 4 and sleeper > 3;pull 3 if shared or met;wake 40 if (((((not awake)))));"
                + "fade if told > 5;pull 1 if 1+2+3+4+5+6+7+8+9+sleep+cheese+years+marks+told+sleeper+prisoner > 100");
        x.law();
        if (kind == 2) {
            x.nights(60);
            x.image();
            x.strict(2);
        }
        return x;
    }

    private static void tryAll(int kind, Method method) throws Exception {
        DreamFort x = made(kind);
        Class<?>[] types = method.getParameterTypes();
        List<Object[]> given = new ArrayList<>();
        given.add(new Object[0]);
        for (Class<?> type : types) {
            List<Object[]> longer = new ArrayList<>();
            for (Object[] head : given) {
                for (int n : NUMBERS) {
                    Object[] all = Arrays.copyOf(head, head.length + 1);
                    all[head.length] = n;
                    if (type == boolean.class) {
                        all[head.length] = n % 2 == 0;
                    }
                    longer.add(all);
                }
            }
            given = longer;
        }
        for (Object[] all : given) {
            tryOne(x, method, all);
        }
    }

    private static void tryOne(DreamFort x, Method method, Object[] given) throws Exception {
        looked++;
        String before = shown(x);
        try {
            method.invoke(x, given);
        } catch (InvocationTargetException e) {
            Throwable thrown = e.getCause();
            boolean named = false;
            for (Class<?> kind : method.getExceptionTypes()) {
                named |= thrown.getClass() == kind;
            }
            if (!named || !before.equals(shown(x))) {
                wrong++;
                System.out.println("EdgesTest: " + method.getName() + Arrays.toString(given) + " threw " + thrown);
            }
        }
    }

    private static String shown(DreamFort x) {
        StringBuilder all = new StringBuilder();
        for (int what = 0; what < 10; what++) {
            all.append(x.count(what)).append(' ');
        }
        for (int p = 0; p < x.count(0); p++) {
            all.append(x.prisoner(p, 0)).append(' ').append(x.prisoner(p, 1)).append(' ').append(x.prisoner(p, 2)).append(' ');
        }
        for (int s = 0; s < x.count(1); s++) {
            all.append(x.sleeper(s, 1)).append(' ').append(x.sleeper(s, 2)).append(' ').append(x.sleeper(s, 3)).append(' ');
            for (int p = 0; p < x.count(0); p++) {
                all.append(x.told(s, p)).append(' ');
            }
        }
        int seed = x.seed(0);
        x.seed(seed);
        return all.append(seed).append(' ').append(x.log(0, 0)).toString();
    }

    private static void due(String what, long got, long want) {
        looked++;
        if (got != want) {
            wrong++;
            System.out.println("EdgesTest: " + what + " answered " + got + ", due is " + want);
        }
    }

    private static int lawOf(String text) {
        DreamFort x = Check.made("prisoner years 1 marks a;sleeper sleep 1;told 0 0 a");
        Check.put(x, text);
        try {
            x.law();
        } catch (IllegalArgumentException e) {
            return 1000 + x.fault();
        }
        return x.pull(0, 0);
    }

    /** Tapes of 400 bytes of as many things as can be. */
    private static void fullTapes() {
        due("a sum of 196 parts", lawOf("pull 9 if 0" + "+1".repeat(193) + ">99"), 11);
        due("not more than itself", lawOf("pull 9 if 193>0" + "+1".repeat(192)), 11);
        due("ors", lawOf("pull 9 if 1>2" + "or 1>2".repeat(64)), 2);
        due("ors of which the last holds", lawOf("pull 9 if 1>2" + "or 1>2".repeat(63) + "or 2>1"), 11);
        due("ands", lawOf("pull 9 if 2>1" + "and 2>1".repeat(54)), 11);
        due("ands of which the last does not hold", lawOf("pull 9 if 2>1" + "and 2>1".repeat(53) + "and 2>2"), 2);
        due("400 signs", lawOf(";".repeat(400)), 1000);
        due("390 (", lawOf("pull 9 if " + "(".repeat(390)), 1016);
        due("400 letters", lawOf("a".repeat(400)), 1000);
        due("a number of 395 digits", lawOf("pull " + "0".repeat(395)), 1005);
        due("400 blanks", lawOf(" ".repeat(400)), 2);
        String deep = "0<1 or 0<1 and (".repeat(6) + "1 > 2 or 0 < 1 and 1 + 1 + 1 < 2 + 2" + ")".repeat(6);
        due("six deep, all of it held back", lawOf("pull 9 if " + deep), 11);
        String none = "0>1 or 0<1 and (".repeat(6) + "1 > 2 or 0 < 1 and 1 + 1 + 1 > 2 + 2" + ")".repeat(6);
        due("six deep, none of it", lawOf("pull 9 if " + none), 2);
    }
}
