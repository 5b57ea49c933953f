import java.util.ArrayList;
import java.util.Arrays;
import java.util.List;
import java.util.NoSuchElementException;
import java.util.TreeMap;

/**
 * The document once more, as slow and as plain as can be, to be held against the class: whatever is "the least",
 * "the fewest" or "the first" is looked for among all there are, on copies of everything.
 */
final class Oracle {
    static final int NONE = -1;

    static final class Prisoner {
        int years;
        boolean[] marks = new boolean[6];
        boolean out;
    }

    static final class Sleeper {
        int sleep;
        int cheese;
        boolean awake;
        boolean[] met = new boolean[6];
        boolean[][] told = new boolean[6][6];
    }

    record Row(int night, int sleeper, int prisoner, int good) {
    }

    interface Condition {
        boolean holds(State z, int s, int p);
    }

    interface Sum {
        int of(State z, int s, int p);
    }

    record Line(String kind, int n, Condition condition) {
    }

    static final class State {
        List<Prisoner> prisoners = new ArrayList<>();
        List<Sleeper> sleepers = new ArrayList<>();
        int strict = 2;
        int night;
        int seed = 1;
        int texts;
        List<Line> law;
        List<Row> log = new ArrayList<>();
        int dreams;

        State copy() {
            State z = new State();
            for (Prisoner p : prisoners) {
                Prisoner q = new Prisoner();
                q.years = p.years;
                q.marks = p.marks.clone();
                q.out = p.out;
                z.prisoners.add(q);
            }
            for (Sleeper s : sleepers) {
                Sleeper t = new Sleeper();
                t.sleep = s.sleep;
                t.cheese = s.cheese;
                t.awake = s.awake;
                t.met = s.met.clone();
                for (int p = 0; p < 6; p++) {
                    t.told[p] = s.told[p].clone();
                }
                z.sleepers.add(t);
            }
            z.strict = strict;
            z.night = night;
            z.seed = seed;
            z.texts = texts;
            z.law = law;
            z.log = new ArrayList<>(log);
            z.dreams = dreams;
            return z;
        }

        int toldCount(int s, int p) {
            return ones(sleepers.get(s).told[p]);
        }

        boolean shared(int s, int p) {
            for (int t = 0; t < sleepers.size(); t++) {
                if (t != s && toldCount(t, p) > 0) {
                    return true;
                }
            }
            return false;
        }

        int sum(String kind, int s, int p) {
            int sum = 0;
            if (law != null) {
                for (Line line : law) {
                    if (line.kind.equals(kind) && line.condition.holds(this, s, p)) {
                        sum += line.n;
                    }
                }
            }
            return sum;
        }

        int pull(int s, int p) {
            if (toldCount(s, p) == 0 || prisoners.get(p).out) {
                return 0;
            }
            return 2 * toldCount(s, p) + sum("pull", s, p);
        }

        int chance(int s) {
            Sleeper t = sleepers.get(s);
            if (t.awake) {
                return 0;
            }
            int c = t.sleep + 5 * t.cheese - sum("wake", s, NONE);
            return c < 0 ? 0 : c > 100 ? 100 : c;
        }

        int dream(int s) {
            int best = NONE;
            for (int p = prisoners.size() - 1; p >= 0; p--) {
                if (pull(s, p) > 0 && (best == NONE || pull(s, p) >= pull(s, best))) {
                    best = p;
                }
            }
            return best;
        }

        boolean good(int s, int p) {
            return !sleepers.get(s).met[p] && toldCount(s, p) >= strict;
        }

        boolean goodDream(int s, int p) {
            return dream(s) == p && good(s, p);
        }

        int draw() {
            seed = seed * 1103515245 + 12345;
            return (seed >> 16) & 0x7fff;
        }

        void passNight() {
            State ahead = copy();
            int[] dreamt = new int[sleepers.size()];
            for (int s = 0; s < sleepers.size(); s++) {
                int d = draw();
                dreamt[s] = d % 100 < ahead.chance(s) ? ahead.dream(s) : NONE;
                if (dreamt[s] != NONE) {
                    dreams++;
                    log.add(new Row(night, s, dreamt[s], ahead.good(s, dreamt[s]) ? 1 : 0));
                    if (log.size() > 60) {
                        log.remove(0);
                    }
                }
            }
            for (int s = 0; s < sleepers.size(); s++) {
                if (dreamt[s] != NONE && ahead.good(s, dreamt[s])) {
                    prisoners.get(dreamt[s]).out = true;
                }
            }
            quietNight();
        }

        void quietNight() {
            for (int s = 0; s < sleepers.size(); s++) {
                for (int p = 0; p < prisoners.size(); p++) {
                    if (sum("fade", s, p) > 0) {
                        for (int m = 0; m < 6; m++) {
                            if (sleepers.get(s).told[p][m]) {
                                sleepers.get(s).told[p][m] = false;
                                break;
                            }
                        }
                    }
                }
            }
            for (Sleeper s : sleepers) {
                s.awake = false;
            }
            if (night < 9999) {
                night++;
            }
        }

        int odds(int p) {
            int left = 10000;
            for (int s = 0; s < sleepers.size(); s++) {
                if (goodDream(s, p)) {
                    left = left * (100 - chance(s)) / 100;
                }
            }
            return 10000 - left;
        }

        int in(int p, int n) {
            int left = 10000;
            for (int i = 0; i < n; i++) {
                left = left * (10000 - odds(p)) / 10000;
            }
            return 10000 - left;
        }

        int need(int s, int p) {
            int best = NONE;
            for (int more = 0; more < 64; more++) {
                State z = copy();
                boolean can = true;
                for (int m = 0; m < 6; m++) {
                    if ((more >> m & 1) == 1) {
                        can &= prisoners.get(p).marks[m] && !sleepers.get(s).told[p][m];
                        z.sleepers.get(s).told[p][m] = true;
                    }
                }
                if (can && z.goodDream(s, p) && (best == NONE || Integer.bitCount(more) < Integer.bitCount(best))) {
                    best = more;
                }
            }
            return best;
        }

        int yearsOut() {
            int sum = 0;
            for (Prisoner p : prisoners) {
                sum += p.out ? p.years : 0;
            }
            return sum;
        }

        int outBits() {
            int bits = 0;
            for (int p = 0; p < prisoners.size(); p++) {
                bits |= prisoners.get(p).out ? 1 << p : 0;
            }
            return bits;
        }

        int toldBy(int s) {
            int sum = 0;
            for (int p = 0; p < prisoners.size(); p++) {
                sum += toldCount(s, p);
            }
            return sum;
        }

        int toldAll() {
            int sum = 0;
            for (int s = 0; s < sleepers.size(); s++) {
                sum += toldBy(s);
            }
            return sum;
        }
    }

    static int ones(boolean[] row) {
        return Integer.bitCount(bits(row));
    }

    static int bits(boolean[] row) {
        int bits = 0;
        for (int i = 0; i < row.length; i++) {
            bits |= row[i] ? 1 << i : 0;
        }
        return bits;
    }

    // ---- texts

    static final class Wrong extends RuntimeException {
        private static final long serialVersionUID = 1;
        final int at;

        Wrong(int at) {
            this.at = at;
        }
    }

    static final class Parser {
        final String t;
        int i;

        Parser(String t) {
            this.t = t;
        }

        void blanks() {
            while (i < t.length() && t.charAt(i) == ' ') {
                i++;
            }
        }

        String peekWord() {
            blanks();
            int j = i;
            while (j < t.length() && t.charAt(j) >= 'a' && t.charAt(j) <= 'z') {
                j++;
            }
            return t.substring(i, j);
        }

        boolean word(String w) {
            if (!peekWord().equals(w)) {
                return false;
            }
            i += w.length();
            return true;
        }

        void mustWord(String w) {
            if (!word(w)) {
                throw new Wrong(i);
            }
        }

        boolean sign(char c) {
            blanks();
            if (i < t.length() && t.charAt(i) == c) {
                i++;
                return true;
            }
            return false;
        }

        int number(int least, int most) {
            blanks();
            int j = i;
            while (j < t.length() && t.charAt(j) >= '0' && t.charAt(j) <= '9') {
                j++;
            }
            if (j == i || j - i > 3) {
                throw new Wrong(i);
            }
            int n = Integer.parseInt(t.substring(i, j));
            if (n < least || n > most) {
                throw new Wrong(i);
            }
            i = j;
            return n;
        }

        boolean[] letters(boolean[] allowed) {
            String w = peekWord();
            boolean[] marks = new boolean[6];
            if (w.isEmpty()) {
                throw new Wrong(i);
            }
            for (char c : w.toCharArray()) {
                if (c > 'f' || marks[c - 'a'] || allowed != null && !allowed[c - 'a']) {
                    throw new Wrong(i);
                }
                marks[c - 'a'] = true;
            }
            i += w.length();
            return marks;
        }

        boolean atEnd() {
            blanks();
            return i == t.length();
        }

        /** Behind a line: whether another one comes. */
        boolean more() {
            if (atEnd()) {
                return false;
            }
            if (!sign(';')) {
                throw new Wrong(i);
            }
            blanks();
            return true;
        }

        void fortress(State z) {
            if (atEnd()) {
                return;
            }
            int lines = 0;
            do {
                if (++lines > 14) {
                    throw new Wrong(i);
                }
                fortressLine(z);
            } while (more());
        }

        private void fortressLine(State z) {
            int begin = i;
            if (word("prisoner")) {
                if (z.prisoners.size() == 6) {
                    throw new Wrong(begin);
                }
                Prisoner p = new Prisoner();
                mustWord("years");
                p.years = number(0, 99);
                if (word("marks")) {
                    p.marks = letters(null);
                }
                z.prisoners.add(p);
            } else if (word("sleeper")) {
                if (z.sleepers.size() == 6) {
                    throw new Wrong(begin);
                }
                Sleeper s = new Sleeper();
                mustWord("sleep");
                s.sleep = number(0, 100);
                s.cheese = word("cheese") ? number(0, 9) : 0;
                if (word("met")) {
                    s.met[number(0, z.prisoners.size() - 1)] = true;
                }
                s.awake = word("awake");
                z.sleepers.add(s);
            } else if (word("told")) {
                int s = number(0, z.sleepers.size() - 1);
                int p = number(0, z.prisoners.size() - 1);
                boolean[] marks = letters(z.prisoners.get(p).marks);
                for (int m = 0; m < 6; m++) {
                    z.sleepers.get(s).told[p][m] |= marks[m];
                }
            } else if (word("strict")) {
                z.strict = number(1, 6);
            } else if (word("night")) {
                z.night = number(0, 999);
            } else {
                throw new Wrong(begin);
            }
        }

        List<Line> law() {
            List<Line> lines = new ArrayList<>();
            if (atEnd()) {
                return lines;
            }
            do {
                if (lines.size() == 12) {
                    throw new Wrong(i);
                }
                String kind = peekWord();
                int n = 1;
                if (word("pull") || word("wake")) {
                    n = number(0, 100);
                } else {
                    mustWord("fade");
                }
                lines.add(new Line(kind, n, word("if") ? condition(0) : (z, s, p) -> true));
            } while (more());
            return lines;
        }

        private Condition condition(int depth) {
            Condition left = all(depth);
            while (word("or")) {
                Condition a = left;
                Condition b = all(depth);
                left = (z, s, p) -> a.holds(z, s, p) || b.holds(z, s, p);
            }
            return left;
        }

        private Condition all(int depth) {
            Condition left = atom(depth);
            while (word("and")) {
                Condition a = left;
                Condition b = atom(depth);
                left = (z, s, p) -> a.holds(z, s, p) && b.holds(z, s, p);
            }
            return left;
        }

        private Condition atom(int depth) {
            blanks();
            int begin = i;
            if (word("not")) {
                if (depth == 6) {
                    throw new Wrong(begin);
                }
                Condition a = atom(depth + 1);
                return (z, s, p) -> !a.holds(z, s, p);
            }
            if (sign('(')) {
                if (depth == 6) {
                    throw new Wrong(begin);
                }
                Condition a = condition(depth + 1);
                if (!sign(')')) {
                    throw new Wrong(i);
                }
                return a;
            }
            if (word("met")) {
                return (z, s, p) -> p != NONE && z.sleepers.get(s).met[p];
            }
            if (word("shared")) {
                return (z, s, p) -> p != NONE && z.shared(s, p);
            }
            if (word("awake")) {
                return (z, s, p) -> z.sleepers.get(s).awake;
            }
            Sum left = sum();
            boolean less = sign('<');
            if (!less && !sign('>')) {
                throw new Wrong(i);
            }
            Sum right = sum();
            return (z, s, p) -> less ? left.of(z, s, p) < right.of(z, s, p) : left.of(z, s, p) > right.of(z, s, p);
        }

        private Sum sum() {
            Sum left = part();
            while (sign('+')) {
                Sum a = left;
                Sum b = part();
                left = (z, s, p) -> a.of(z, s, p) + b.of(z, s, p);
            }
            return left;
        }

        private Sum part() {
            String w = peekWord();
            Sum sum;
            switch (w) {
                case "":
                    int n = number(0, 999);
                    return (z, s, p) -> n;
                case "sleeper":
                    sum = (z, s, p) -> s;
                    break;
                case "prisoner":
                    sum = (z, s, p) -> p == NONE ? 0 : p;
                    break;
                case "sleep":
                    sum = (z, s, p) -> z.sleepers.get(s).sleep;
                    break;
                case "cheese":
                    sum = (z, s, p) -> z.sleepers.get(s).cheese;
                    break;
                case "years":
                    sum = (z, s, p) -> p == NONE ? 0 : z.prisoners.get(p).years;
                    break;
                case "marks":
                    sum = (z, s, p) -> p == NONE ? 0 : ones(z.prisoners.get(p).marks);
                    break;
                case "told":
                    sum = (z, s, p) -> p == NONE ? 0 : z.toldCount(s, p);
                    break;
                default:
                    throw new Wrong(i);
            }
            i += w.length();
            return sum;
        }
    }

    // ---- the face

    State z = new State();
    byte[] tape = new byte[0];
    int fault = NONE;
    List<State> past = new ArrayList<>();
    State image;

    int feed(int... five) {
        if (tape.length + 20 > 400) {
            return NONE;
        }
        int from = tape.length;
        tape = Arrays.copyOf(tape, from + 20);
        java.nio.ByteBuffer.wrap(tape, from, 20).putInt(five[0]).putInt(five[1]).putInt(five[2]).putInt(five[3]).putInt(five[4]);
        return tape.length;
    }

    boolean end(int n) {
        if (n < 0 || tape.length < n) {
            return false;
        }
        tape = Arrays.copyOf(tape, n);
        return true;
    }

    private byte[] useUp() {
        byte[] was = tape;
        tape = new byte[0];
        return was;
    }

    private String useUpText() {
        return new String(useUp(), java.nio.charset.StandardCharsets.ISO_8859_1);
    }

    int fortress() {
        State draft = z.copy();
        try {
            new Parser(useUpText()).fortress(draft);
            fault = NONE;
        } catch (Wrong w) {
            fault = w.at;
            throw new IllegalArgumentException();
        }
        if (z.texts == 12) {
            throw new UnsupportedOperationException();
        }
        z = draft;
        past.clear();
        return ++z.texts;
    }

    int law() {
        try {
            z.law = new Parser(useUpText()).law();
            fault = NONE;
        } catch (Wrong w) {
            fault = w.at;
            throw new IllegalArgumentException();
        }
        past.clear();
        return z.law.size();
    }

    int fault() {
        return fault;
    }

    private void p(int p) {
        if (p < 0 || p >= z.prisoners.size()) {
            throw new IndexOutOfBoundsException();
        }
    }

    private void s(int s) {
        if (s < 0 || s >= z.sleepers.size()) {
            throw new IndexOutOfBoundsException();
        }
    }

    private void range(int n, int least, int most) {
        if (n < least || n > most) {
            throw new IllegalArgumentException();
        }
    }

    private void mark0(int m) {
        if (m < 0 || m > 5) {
            throw new IndexOutOfBoundsException();
        }
    }

    private int pick(List<int[]> scored, boolean greatest) {
        int best = NONE;
        int score = 0;
        for (int[] one : scored) {
            if (best == NONE || (greatest ? one[1] > score : one[1] < score)) {
                best = one[0];
                score = one[1];
            }
        }
        return best;
    }

    int prisoner(int p, int what) {
        p(p);
        Prisoner q = z.prisoners.get(p);
        List<int[]> scored = new ArrayList<>();
        switch (what) {
            case 0:
                return q.years;
            case 1:
                return bits(q.marks);
            case 2:
                return q.out ? 1 : 0;
            case 3:
                return z.odds(p);
            case 4: {
                int n = 0;
                for (int m = 0; m < 6; m++) {
                    boolean only = q.marks[m];
                    for (int o = 0; o < z.prisoners.size(); o++) {
                        only &= o == p || z.prisoners.get(o).out || !z.prisoners.get(o).marks[m];
                    }
                    n += only ? 1 : 0;
                }
                return n;
            }
            case 5:
                for (int o = 0; o < z.prisoners.size(); o++) {
                    if (o != p && !z.prisoners.get(o).out) {
                        scored.add(new int[] {o, Integer.bitCount(bits(q.marks) & bits(z.prisoners.get(o).marks))});
                    }
                }
                return pick(scored, true);
            case 6: {
                int bits = 0;
                for (int s = 0; s < z.sleepers.size(); s++) {
                    bits |= z.dream(s) == p ? 1 << s : 0;
                }
                return bits;
            }
            case 7:
            case 8: {
                for (int s = 0; s < z.sleepers.size(); s++) {
                    State y = z.copy();
                    y.sleepers.get(s).awake = true;
                    scored.add(new int[] {s, y.odds(p)});
                }
                int enemy = pick(scored, false);
                if (what == 7) {
                    return enemy;
                }
                return enemy == NONE ? 0 : z.odds(p) - scored.get(enemy)[1];
            }
            default:
                throw new NoSuchElementException();
        }
    }

    int sleeper(int s, int what) {
        s(s);
        Sleeper t = z.sleepers.get(s);
        switch (what) {
            case 0:
                return t.sleep;
            case 1:
                return t.cheese;
            case 2:
                return t.awake ? 1 : 0;
            case 3:
                return bits(t.met);
            case 4:
                return z.chance(s);
            case 5:
                return z.dream(s);
            case 6:
                return z.dream(s) != NONE && z.good(s, z.dream(s)) ? 1 : 0;
            case 7:
                return z.toldAll() == 0 ? 0 : z.toldBy(s) * 100 / z.toldAll();
            default:
                throw new NoSuchElementException();
        }
    }

    int told(int s, int p) {
        s(s);
        p(p);
        return bits(z.sleepers.get(s).told[p]);
    }

    int pull(int s, int p) {
        s(s);
        p(p);
        return z.pull(s, p);
    }

    private void act() {
        past.add(z.copy());
        if (past.size() > 12) {
            past.remove(0);
        }
    }

    int nights(int n) {
        range(n, 1, 60);
        act();
        int before = Integer.bitCount(z.outBits());
        for (int i = 0; i < n; i++) {
            z.passNight();
        }
        return Integer.bitCount(z.outBits()) - before;
    }

    int tell(int s, int p, int m) {
        s(s);
        p(p);
        mark0(m);
        if (!z.prisoners.get(p).marks[m]) {
            throw new IllegalStateException();
        }
        act();
        z.sleepers.get(s).told[p][m] = true;
        return z.toldCount(s, p);
    }

    int cheese(int s, int n) {
        s(s);
        range(n, 1, 9);
        act();
        Sleeper t = z.sleepers.get(s);
        t.cheese += n;
        if (t.cheese > 9) {
            t.cheese = 9;
        }
        return t.cheese;
    }

    boolean meet(int s, int p) {
        s(s);
        p(p);
        act();
        boolean had = z.sleepers.get(s).met[p];
        z.sleepers.get(s).met[p] = true;
        return !had;
    }

    boolean wake(int s) {
        s(s);
        act();
        boolean was = z.sleepers.get(s).awake;
        z.sleepers.get(s).awake = true;
        return !was;
    }

    int strict(int n) {
        range(n, 1, 6);
        act();
        int was = z.strict;
        z.strict = n;
        return was;
    }

    int retake(int p) {
        p(p);
        if (!z.prisoners.get(p).out) {
            throw new IllegalStateException();
        }
        act();
        z.prisoners.get(p).out = false;
        return Integer.bitCount(z.outBits());
    }

    int forget(int s) {
        s(s);
        act();
        int was = z.toldBy(s);
        z.sleepers.get(s).told = new boolean[6][6];
        return was;
    }

    int within(int p, int n) {
        p(p);
        range(n, 0, 60);
        return z.in(p, n);
    }

    int soon(int p, int odds) {
        p(p);
        range(odds, 0, 10000);
        for (int n = 0; n <= 60; n++) {
            if (z.in(p, n) >= odds) {
                return n;
            }
        }
        return NONE;
    }

    int need(int s, int p) {
        s(s);
        p(p);
        return z.need(s, p);
    }

    /** By how many marks, and the least set of these. */
    private TreeMap<Integer, Integer> covers(int p, int k) {
        int[] needs = new int[z.sleepers.size()];
        for (int s = 0; s < needs.length; s++) {
            needs[s] = z.need(s, p);
        }
        TreeMap<Integer, Integer> found = new TreeMap<>();
        for (int set = (1 << needs.length) - 1; set >= 0; set--) {
            int cost = 0;
            boolean can = Integer.bitCount(set) == k;
            for (int s = 0; s < needs.length; s++) {
                if ((set >> s & 1) == 1) {
                    can &= needs[s] != NONE;
                    cost += Integer.bitCount(needs[s]);
                }
            }
            if (can) {
                found.put(cost, set);
            }
        }
        return found;
    }

    int cover(int p, int k) {
        p(p);
        range(k, 1, 6);
        TreeMap<Integer, Integer> found = covers(p, k);
        return found.isEmpty() ? NONE : found.firstKey();
    }

    int whom(int p, int k) {
        p(p);
        range(k, 1, 6);
        TreeMap<Integer, Integer> found = covers(p, k);
        return found.isEmpty() ? NONE : found.firstEntry().getValue();
    }

    int outs(int prisoner, int b) {
        if (prisoner != NONE) {
            p(prisoner);
        }
        range(b, 0, 36);
        int n = z.prisoners.size();
        int[][] needs = new int[z.sleepers.size()][n];
        for (int s = 0; s < needs.length; s++) {
            for (int p = 0; p < n; p++) {
                needs[s][p] = z.need(s, p);
            }
        }
        int ways = 1;
        for (int p = 0; p < n; p++) {
            ways *= needs.length + 1;
        }
        int most = -1;
        int[] first = null;
        for (int way = 0; way < ways; way++) {
            // the first prisoner's place counts for the most, so that ways come in their order
            int[] put = new int[n];
            int rest = way;
            for (int p = n - 1; p >= 0; p--) {
                put[p] = rest % (needs.length + 1) - 1;
                rest /= needs.length + 1;
            }
            int years = 0;
            int cost = 0;
            int used = 0;
            boolean can = true;
            for (int p = 0; p < n && can; p++) {
                if (put[p] != NONE) {
                    can = !z.prisoners.get(p).out && needs[put[p]][p] != NONE && (used >> put[p] & 1) == 0;
                    used |= 1 << put[p];
                    cost += Integer.bitCount(needs[put[p]][p]);
                    years += z.prisoners.get(p).years;
                }
            }
            if (can && cost <= b && years > most) {
                most = years;
                first = put;
            }
        }
        return prisoner == NONE ? most : first[prisoner];
    }

    private int[][] rows(int firsts, int seconds, int besides) {
        byte[] t = useUp();
        if (t.length > 40 || t.length % 2 != 0) {
            throw new IllegalArgumentException();
        }
        int[][] rows = new int[t.length / 2][];
        for (int i = 0; i < rows.length; i++) {
            rows[i] = new int[] {t[2 * i] & 255, t[2 * i + 1] & 255};
            if (rows[i][0] >= firsts || rows[i][1] >= seconds && rows[i][1] != besides) {
                throw new IllegalArgumentException();
            }
        }
        return rows;
    }

    private List<int[]> fitting(int[][] rows) {
        List<int[]> fits = new ArrayList<>();
        for (int p = 0; p < z.prisoners.size(); p++) {
            int wrong = 0;
            for (int[] row : rows) {
                wrong += z.prisoners.get(p).marks[row[0]] == (row[1] == 1) ? 0 : 1;
            }
            if (wrong < 2) {
                fits.add(new int[] {p, wrong});
            }
        }
        return fits;
    }

    int sworn() {
        int bits = 0;
        for (int[] fit : fitting(rows(6, 2, 1))) {
            bits |= 1 << fit[0];
        }
        return bits;
    }

    int likely() {
        return pick(fitting(rows(6, 2, 1)), false);
    }

    int ask() {
        List<int[]> fits = fitting(rows(6, 2, 1));
        List<int[]> scored = new ArrayList<>();
        for (int m = 0; m < 6; m++) {
            int have = 0;
            for (int[] fit : fits) {
                have += z.prisoners.get(fit[0]).marks[m] ? 1 : 0;
            }
            scored.add(new int[] {m, Math.max(have, fits.size() - have)});
        }
        return fits.size() < 2 ? NONE : pick(scored, false);
    }

    private TreeMap<Integer, State> rumours() {
        int[][] rows = rows(z.sleepers.size(), z.prisoners.size(), 6);
        TreeMap<Integer, State> fits = new TreeMap<>();
        for (int p = 0; p < z.prisoners.size(); p++) {
            for (int m = 0; m < 6; m++) {
                State y = z.copy();
                for (Sleeper s : y.sleepers) {
                    s.told[p][m] = true;
                }
                boolean fit = z.prisoners.get(p).marks[m];
                for (int[] row : rows) {
                    fit &= y.dream(row[0]) == (row[1] == 6 ? NONE : row[1]);
                }
                if (fit) {
                    fits.put(6 * p + m, y);
                }
            }
        }
        return fits;
    }

    int rumour(boolean first) {
        TreeMap<Integer, State> fits = rumours();
        return !first ? fits.size() : fits.isEmpty() ? NONE : fits.firstKey();
    }

    int next() {
        TreeMap<Integer, State> fits = rumours();
        List<int[]> scored = new ArrayList<>();
        for (int s = 0; s < z.sleepers.size(); s++) {
            int[] parts = new int[7];
            for (State y : fits.values()) {
                parts[y.dream(s) + 1]++;
            }
            Arrays.sort(parts);
            scored.add(new int[] {s, parts[6]});
        }
        return fits.size() < 2 ? NONE : pick(scored, false);
    }

    int like(int p, int o) {
        p(p);
        p(o);
        if (p == o) {
            throw new IllegalArgumentException();
        }
        return bits(z.prisoners.get(p).marks) & bits(z.prisoners.get(o).marks);
    }

    int twice() {
        int bits = 0;
        for (int p = 0; p < z.prisoners.size(); p++) {
            bits |= Integer.bitCount(prisoner(p, 6)) >= 2 ? 1 << p : 0;
        }
        return bits;
    }

    int vain() {
        int bits = 0;
        for (int s = 0; s < z.sleepers.size(); s++) {
            bits |= z.dream(s) != NONE && !z.good(s, z.dream(s)) ? 1 << s : 0;
        }
        return bits;
    }

    int never() {
        int bits = 0;
        for (int p = 0; p < z.prisoners.size(); p++) {
            boolean never = !z.prisoners.get(p).out;
            for (int s = 0; s < z.sleepers.size(); s++) {
                never &= !z.goodDream(s, p) && z.need(s, p) == NONE;
            }
            bits |= never ? 1 << p : 0;
        }
        return bits;
    }

    int beds(int prisoner, int n) {
        p(prisoner);
        range(n, 0, 99);
        int[] has = new int[6];
        for (int i = 0; i < n; i++) {
            List<int[]> scored = new ArrayList<>();
            for (int p = 0; p < z.prisoners.size(); p++) {
                if (!z.prisoners.get(p).out) {
                    scored.add(new int[] {p, z.prisoners.get(p).years / (1 + has[p])});
                }
            }
            if (!scored.isEmpty()) {
                has[pick(scored, true)]++;
            }
        }
        return has[prisoner];
    }

    int couples(int sleeper) {
        if (sleeper != NONE) {
            s(sleeper);
        }
        int n = z.sleepers.size();
        int ways = 1;
        for (int s = 0; s < n; s++) {
            ways *= n + 1;
        }
        int most = -1;
        int[] first = null;
        for (int way = 0; way < ways; way++) {
            int[] with = new int[n];
            int rest = way;
            for (int s = n - 1; s >= 0; s--) {
                with[s] = rest % (n + 1) - 1;
                rest /= n + 1;
            }
            boolean can = true;
            int sum = 0;
            for (int s = 0; s < n && can; s++) {
                if (with[s] != NONE) {
                    can = with[s] != s && with[with[s]] == s;
                    for (int p = 0; p < z.prisoners.size(); p++) {
                        sum += z.toldCount(s, p) > 0 && z.toldCount(with[s], p) > 0 ? 1 : 0;
                    }
                }
            }
            if (can && sum / 2 > most) {
                most = sum / 2;
                first = with;
            }
        }
        return sleeper == NONE ? most : first[sleeper];
    }

    int gossip() {
        List<int[]> scored = new ArrayList<>();
        for (int s = 0; s < z.sleepers.size(); s++) {
            if (z.toldBy(s) > 0) {
                scored.add(new int[] {s, z.toldBy(s)});
            }
        }
        return pick(scored, true);
    }

    int friends(int s, int o) {
        s(s);
        s(o);
        if (s == o) {
            throw new IllegalArgumentException();
        }
        return bits(z.sleepers.get(s).met) & bits(z.sleepers.get(o).met);
    }

    int rests(int s, int p) {
        s(s);
        p(p);
        int c = z.chance(s);
        int[] teller = {-2, c / 10, 0, z.goodDream(s, p) ? c / 20 : 0};
        int[] enemy = {1, -(z.prisoners.get(p).years / 10), -1, 0};
        int bits = 0;
        for (int i = 0; i < 4; i++) {
            bits |= teller[i] >= teller[i ^ 2] && enemy[i] >= enemy[i ^ 1] ? 1 << i : 0;
        }
        return bits;
    }

    int longest() {
        List<int[]> scored = new ArrayList<>();
        for (int p = 0; p < z.prisoners.size(); p++) {
            if (!z.prisoners.get(p).out) {
                scored.add(new int[] {p, z.prisoners.get(p).years});
            }
        }
        return pick(scored, true);
    }

    int out() {
        return z.outBits();
    }

    int awake() {
        int bits = 0;
        for (int s = 0; s < z.sleepers.size(); s++) {
            bits |= z.sleepers.get(s).awake ? 1 << s : 0;
        }
        return bits;
    }

    int twins() {
        int n = 0;
        for (Sleeper s : z.sleepers) {
            for (Sleeper t : z.sleepers) {
                n += s != t && s.sleep == t.sleep && s.cheese == t.cheese ? 1 : 0;
            }
        }
        return n / 2;
    }

    int mark(int m) {
        mark0(m);
        int bits = 0;
        for (int p = 0; p < z.prisoners.size(); p++) {
            bits |= z.prisoners.get(p).marks[m] ? 1 << p : 0;
        }
        return bits;
    }

    int sound() {
        List<int[]> scored = new ArrayList<>();
        for (int s = 0; s < z.sleepers.size(); s++) {
            scored.add(new int[] {s, z.chance(s)});
        }
        return pick(scored, true);
    }

    int ahead(int s, int p, int n) {
        s(s);
        p(p);
        range(n, 0, 60);
        State y = z.copy();
        for (int i = 0; i < n; i++) {
            y.quietNight();
        }
        return bits(y.sleepers.get(s).told[p]);
    }

    int trial(int n, boolean dreams) {
        range(n, 0, 60);
        State y = z.copy();
        for (int i = 0; i < n; i++) {
            y.passNight();
        }
        return dreams ? y.dreams - z.dreams : y.outBits();
    }

    int span(int n, boolean most) {
        range(n, 0, 60);
        int[] years = new int[6];
        for (int seed = 1; seed <= 6; seed++) {
            State y = z.copy();
            y.seed = seed;
            for (int i = 0; i < n; i++) {
                y.passNight();
            }
            years[seed - 1] = y.yearsOut();
        }
        Arrays.sort(years);
        return most ? years[5] : years[0];
    }

    int led(int p, boolean night) {
        p(p);
        int rows = 0;
        int latest = NONE;
        for (Row row : z.log) {
            if (row.prisoner == p) {
                rows++;
                latest = row.night;
            }
        }
        return night ? latest : rows;
    }

    int log(int ago, int what) {
        if (what < 0 || what > 3) {
            throw new NoSuchElementException();
        }
        if (ago < 0 || ago >= z.log.size()) {
            return NONE;
        }
        Row row = z.log.get(z.log.size() - 1 - ago);
        return what == 0 ? row.night : what == 1 ? row.sleeper : what == 2 ? row.prisoner : row.good;
    }

    int seed(int n) {
        int was = z.seed;
        z.seed = n;
        return was;
    }

    boolean undo() {
        if (past.isEmpty()) {
            return false;
        }
        z = past.remove(past.size() - 1);
        return true;
    }

    void image() {
        image = z.copy();
    }

    boolean back() {
        if (image == null) {
            return false;
        }
        z = image.copy();
        past.clear();
        return true;
    }

    int count(int what) {
        switch (what) {
            case 0:
                return z.prisoners.size();
            case 1:
                return z.sleepers.size();
            case 2:
                return z.texts;
            case 3:
                return z.law == null ? NONE : z.law.size();
            case 4:
                return z.night;
            case 5:
                return z.strict;
            case 6:
                return z.yearsOut();
            case 7:
                return z.toldAll();
            case 8:
                return z.log.size();
            case 9:
                return past.size();
            default:
                return NONE;
        }
    }
}
