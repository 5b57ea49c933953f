import java.nio.charset.StandardCharsets;
import java.util.function.LongSupplier;

/** What the tests share: answers that are due, exceptions that are due, and texts put on the tape. */
final class Check {
    private final String name;
    private int looked;
    private int wrong;

    Check(String name) {
        this.name = name;
    }

    void due(String what, long got, long want) {
        looked++;
        if (got != want) {
            wrong++;
            System.out.println(name + ": " + what + " answered " + got + ", due is " + want);
        }
    }

    void due(String what, boolean got, boolean want) {
        due(what, got ? 1 : 0, want ? 1 : 0);
    }

    void dueThrow(String what, Class<? extends RuntimeException> kind, LongSupplier call) {
        looked++;
        String got;
        try {
            got = "" + call.getAsLong();
        } catch (RuntimeException e) {
            if (e.getClass() == kind) {
                return;
            }
            got = e.toString();
        }
        wrong++;
        System.out.println(name + ": " + what + " answered " + got + ", due is " + kind.getSimpleName());
    }

    void noIndex(String what, LongSupplier call) {
        dueThrow(what, IndexOutOfBoundsException.class, call);
    }

    void noArgument(String what, LongSupplier call) {
        dueThrow(what, IllegalArgumentException.class, call);
    }

    void noState(String what, LongSupplier call) {
        dueThrow(what, IllegalStateException.class, call);
    }

    void noElement(String what, LongSupplier call) {
        dueThrow(what, java.util.NoSuchElementException.class, call);
    }

    void finish() {
        System.out.println(name + ": " + looked + " answers looked at, " + wrong + " wrong");
        if (wrong != 0) {
            System.exit(1);
        }
    }

    static void put(DreamFort x, String text) {
        put(x, text.getBytes(StandardCharsets.ISO_8859_1));
    }

    static void put(DreamFort x, byte[] bytes) {
        if (bytes.length > 400) {
            throw new IllegalArgumentException("a test's tape of " + bytes.length + " bytes");
        }
        x.end(0);
        int[] five = new int[5];
        for (int from = 0; from < bytes.length; from += 20) {
            for (int i = 0; i < 20; i++) {
                int b = from + i < bytes.length ? bytes[from + i] & 255 : 0;
                five[i / 4] = five[i / 4] << 8 | b;
            }
            x.feed(five[0], five[1], five[2], five[3], five[4]);
        }
        x.end(bytes.length);
    }

    static void putRows(DreamFort x, int... rows) {
        byte[] bytes = new byte[rows.length];
        for (int i = 0; i < rows.length; i++) {
            bytes[i] = (byte) rows[i];
        }
        put(x, bytes);
    }

    /** A new object with a fortress, and a law unless that is null. */
    static DreamFort made(String fortress, String law) {
        DreamFort x = new DreamFort();
        put(x, fortress);
        x.fortress();
        if (law != null) {
            put(x, law);
            x.law();
        }
        return x;
    }

    static DreamFort made(String fortress) {
        return made(fortress, null);
    }
}
