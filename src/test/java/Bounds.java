import java.io.IOException;
import java.nio.file.Files;
import java.nio.file.Path;
import java.util.NoSuchElementException;
import java.util.function.IntFunction;
import java.util.function.LongSupplier;

/**
 * Tests that name the sentence of the document that they hold the class to. A sentence must stand in the document word
 * by word, and in the end no word of the Terms and the promises may be left that no test has named.
 */
final class Bounds {
    static final int TERMS = 0;
    static final Class<IndexOutOfBoundsException> NO_SUCH = IndexOutOfBoundsException.class;
    static final Class<IllegalArgumentException> NO_NUMBER = IllegalArgumentException.class;
    static final Class<IllegalStateException> CANNOT_BE = IllegalStateException.class;
    static final Class<NoSuchElementException> NO_WHAT = NoSuchElementException.class;

    private final Check check = new Check("BoundsTest");
    private final String document;
    private final boolean[] named;
    private String sentence = "";

    Bounds() throws IOException {
        document = Files.readString(Path.of("../shared/DOC.md"));
        named = new boolean[document.length()];
    }

    // ---- sentences

    /** The tests that follow are of this sentence, which stands in the Terms (0) or in the promise of that number. */
    void says(int promise, String words) {
        int from = promise == TERMS ? document.indexOf("## Terms") : document.indexOf("## Promise " + promise + ":");
        int at = document.indexOf(words, from);
        check.due("<" + words + "> stands in section " + promise, at >= 0 && at < document.indexOf("\n## ", from + 1), true);
        for (int i = at; i >= 0 && i < at + words.length(); i++) {
            named[i] = true;
        }
        sentence = (promise == TERMS ? "Terms" : "promise " + promise) + " <" + words + ">: ";
    }

    /** A sentence that must stand anywhere in the document. */
    void says(String words) {
        check.due("<" + words + "> stands in the document", document.contains(words), true);
        sentence = "<" + words + ">: ";
    }

    void finish() {
        int terms = document.indexOf("\n", document.indexOf("## Terms"));
        int promises = document.indexOf("\n## Promise 1:");
        unnamed("the Terms", terms, promises);
        for (int promise = 1; promise <= 54; promise++) {
            int head = document.indexOf("\n## Promise " + promise + ":");
            int body = document.indexOf("`: ", head) + 3;
            unnamed("promise " + promise, body, document.indexOf("\n## ", head + 1));
        }
        check.finish();
    }

    private void unnamed(String where, int from, int behind) {
        StringBuilder left = new StringBuilder();
        for (int i = from; i < behind; i++) {
            left.append(named[i] ? ' ' : document.charAt(i));
        }
        String words = left.toString().replace("```text", "").replace("```", "").replaceAll("==== [23]\\.", "").trim();
        check.due("words of " + where + " without a test: <" + words.replaceAll("\\s+", " ") + ">", words.isEmpty(), true);
    }

    // ---- answers

    void is(String what, long got, long due) {
        check.due(sentence + what, got, due);
    }

    void is(String what, boolean got, boolean due) {
        check.due(sentence + what, got, due);
    }

    void same(String what, String got, String due) {
        check.due(sentence + what + " <" + got + "> is <" + due + ">", got.equals(due), true);
    }

    // ---- refused calls

    /** The call throws just that, and all is as it was, the tape too. */
    void refuses(DreamFort x, Class<? extends RuntimeException> kind, String what, LongSupplier call) {
        String before = seen(x) + " tape " + tapeOf(x) + " fault " + x.fault();
        check.dueThrow(sentence + what, kind, call);
        same("behind " + what, seen(x) + " tape " + tapeOf(x) + " fault " + x.fault(), before);
    }

    /** The call throws just that, the tape is used up, and all else but fault() is as it was. */
    void refusesTape(DreamFort x, Class<? extends RuntimeException> kind, String what, LongSupplier call) {
        String before = seen(x);
        check.dueThrow(sentence + what, kind, call);
        is("the tape behind " + what, tapeOf(x), 0);
        same("behind " + what, seen(x), before);
    }

    /** The call of each of these numbers throws just that, and all is as it was. */
    void refusesEach(DreamFort x, Class<? extends RuntimeException> kind, String what, IntFunction<LongSupplier> call, int... numbers) {
        for (int n : numbers) {
            refuses(x, kind, what + " of " + n, call.apply(n));
        }
    }

    /** How many bytes the tape has; it stays as it is. */
    static int tapeOf(DreamFort x) {
        int length = 400;
        while (!x.end(length)) {
            length--;
        }
        return length;
    }

    /** All that can be asked of an object without a change, but for the tape and fault(). */
    static String seen(DreamFort x) {
        StringBuilder all = new StringBuilder();
        for (int what = 0; what < 10; what++) {
            all.append(x.count(what)).append(' ');
        }
        for (int p = 0; p < x.count(0); p++) {
            all.append("p");
            for (int what = 0; what < 9; what++) {
                all.append(x.prisoner(p, what)).append(' ');
            }
        }
        for (int s = 0; s < x.count(1); s++) {
            all.append("s");
            for (int what = 0; what < 8; what++) {
                all.append(x.sleeper(s, what)).append(' ');
            }
            for (int p = 0; p < x.count(0); p++) {
                all.append(x.told(s, p)).append('/').append(x.pull(s, p)).append('/').append(x.ahead(s, p, 1)).append(' ');
            }
        }
        for (int ago = 0; ago < x.count(8); ago++) {
            all.append(x.log(ago, 0)).append('.').append(x.log(ago, 1)).append('.').append(x.log(ago, 2)).append('.').append(x.log(ago, 3));
            all.append(' ');
        }
        int seed = x.seed(0);
        x.seed(seed);
        return all.append("seed ").append(seed).toString();
    }
}
