import java.math.BigInteger;
import java.util.ArrayList;
import java.util.Arrays;
import java.util.List;
import java.util.regex.Matcher;
import java.util.regex.Pattern;

/** The document once more, as plainly and as slowly as it can be said; random runs are held against it. */
final class Model {
    static final int BAD = -1, NOT = -2, FULL = -3, NONE = -4, NULL = -11, CAST = -12, INDEX = -13, SIZE = -14;

    /** All that an image keeps. */
    private static final class State {
        List<int[]> people = new ArrayList<>(); // kind, pence
        boolean[][] strangers = new boolean[5][5]; // the first does not know the second
        boolean[][] asked = new boolean[5][5];
        List<int[]> plan = new ArrayList<>(); // by, of, whether a week ends

        State copy() {
            State s = new State();
            for (int[] p : people) {
                s.people.add(p.clone());
            }
            for (int a = 0; a < 5; a++) {
                s.strangers[a] = strangers[a].clone();
                s.asked[a] = asked[a].clone();
            }
            s.plan.addAll(plan);
            return s;
        }

        int endWeek() {
            int askings = 0;
            for (boolean[] row : asked) {
                for (boolean is : row) askings += is ? 1 : 0;
            }
            asked = new boolean[5][5];
            return askings;
        }

        int size() {
            return people.size();
        }

        int pence(int who) {
            return people.get(who)[1];
        }

        int gives(int who) {
            int has = pence(who);
            int[] byKind = {(has + 1) / 2, has / 2, has / 3, has > 9 ? has - 9 : 0};
            return byKind[people.get(who)[0]];
        }

        boolean lawful(int a, int b) {
            return !strangers[a][b] && pence(b) != 0 && !asked[a][b];
        }

        boolean tryAsk(int a, int b) {
            if (!lawful(a, b)) {
                return false;
            }
            int given = gives(b);
            people.get(b)[1] -= given;
            people.get(a)[1] += given;
            asked[a][b] = true;
            return true;
        }
    }

    private State now = new State();
    private State image = null;
    private String tape = "";
    private final Object[] sheets = new Object[4];

    private boolean is(int person) {
        return person >= 0 && person < now.size();
    }

    private boolean two(int a, int b) {
        return is(a) && is(b) && a != b;
    }

    public int person(int kind, int pence) {
        if (kind < 0 || kind > 3 || pence < 0 || pence > 9999) return BAD;
        if (now.size() == 5) return FULL;
        now.people.add(new int[] {kind, pence});
        return now.size() - 1;
    }

    public int set(int person, int v) {
        if (!is(person) || v < 0 || v > 9999) return BAD;
        int was = now.pence(person);
        now.people.get(person)[1] = v;
        return was;
    }

    public int told(int person, int what) {
        if (!is(person) || what < 0 || what > 4) return BAD;
        if (what == 0) return now.people.get(person)[0];
        if (what == 1) return now.pence(person);
        if (what == 2) return now.gives(person);
        int bits = 0;
        for (int b = 0; b < now.size(); b++) {
            boolean in = what == 3 ? b != person && !now.strangers[person][b] : now.asked[person][b];
            bits += in ? 1 << b : 0;
        }
        return bits;
    }

    public int knows(int a, int b, boolean is) {
        if (!two(a, b)) return BAD;
        boolean did = !now.strangers[a][b];
        now.strangers[a][b] = !is;
        return did ? 1 : 0;
    }

    public int ask(int a, int b) {
        if (!two(a, b)) return BAD;
        int given = now.gives(b);
        return now.tryAsk(a, b) ? given : NOT;
    }

    public int week() {
        return now.endWeek();
    }

    public int type(long w, int n) {
        if (n < 1 || n > 8) return BAD;
        String more = "";
        for (int i = 0; i < n; i++) {
            int sign = (int) (w >>> 8 * i) & 255;
            if (sign < 32 || sign > 126) return BAD;
            more = (char) sign + more;
        }
        if (tape.length() + n > 80) return FULL;
        tape += more;
        return tape.length();
    }

    /** How many signs ahead of the first that can't stand there; -1 if the text is whole. */
    private static int faultOf(String grammar, String text) {
        Pattern pattern = Pattern.compile(grammar);
        for (int n = 1; n <= text.length(); n++) {
            Matcher m = pattern.matcher(text.substring(0, n));
            if (!m.matches() && !m.hitEnd()) return n - 1;
        }
        return pattern.matcher(text).matches() ? -1 : text.length();
    }

    public int people() {
        String text = tape;
        tape = "";
        String one = " *[fctw] *[0-9]+ *";
        int fault = faultOf(one + "(," + one + "){0,4}", text);
        Matcher numbers = Pattern.compile("[0-9]+").matcher(text);
        while (numbers.find()) {
            boolean great = new BigInteger(numbers.group()).compareTo(BigInteger.valueOf(9999)) > 0;
            if (great && (fault < 0 || numbers.start() < fault)) {
                fault = numbers.start();
                break;
            }
        }
        if (fault >= 0) return -20 - fault;
        now = new State();
        for (String part : text.replace(" ", "").split(",")) {
            now.people.add(new int[] {"fctw".indexOf(part.charAt(0)), Integer.parseInt(part.substring(1))});
        }
        return now.size();
    }

    public int plan() {
        String text = tape;
        tape = "";
        List<String> pairs = new ArrayList<>();
        for (int a = 0; a < now.size(); a++) {
            for (int b = 0; b < now.size(); b++) {
                if (a != b) pairs.add(a + " *> *" + b);
            }
        }
        String one = pairs.isEmpty() ? (now.size() == 1 ? " *0 *> *(?!)" : " *(?!)") : " *(" + String.join("|", pairs) + ") *";
        int fault = faultOf(one + "([,;]" + one + "){0,7}(; *)?", text);
        if (fault >= 0) return -20 - fault;
        now.plan.clear();
        Matcher askings = Pattern.compile("([0-9])>([0-9])(;?)").matcher(text.replace(" ", ""));
        while (askings.find()) {
            now.plan.add(new int[] {Integer.parseInt(askings.group(1)), Integer.parseInt(askings.group(2)),
                askings.group(3).length()});
        }
        return now.plan.size();
    }

    public int count(int what) {
        if (what == 0) return now.size();
        if (what == 1) return now.people.stream().mapToInt(p -> p[1]).sum();
        if (what == 2) return now.copy().endWeek();
        if (what == 3) return now.plan.size();
        if (what == 4) return (int) now.plan.stream().filter(p -> p[2] == 1).count();
        return BAD;
    }

    public int run() {
        int done = 0;
        for (int[] p : now.plan) {
            if (!now.tryAsk(p[0], p[1])) return done;
            done++;
            if (p[2] == 1) now.endWeek();
        }
        return done;
    }

    /** Pence of one if he asks others at these times (those of others by numbers). */
    private int penceBy(int person, int[] times) {
        State s = now.copy();
        for (int time = 0; time <= s.plan.size(); time++) {
            if (time > 0) {
                int[] p = s.plan.get(time - 1);
                s.tryAsk(p[0], p[1]);
                if (p[2] == 1) s.endWeek();
            }
            for (int other = 0, i = 0; other < s.size(); other++) {
                if (other != person && times[i++] == time) s.tryAsk(person, other);
            }
        }
        return s.pence(person);
    }

    /** The most pence of one, and behind it the times of the first way to them. */
    private int[] bestTimes(int person) {
        int others = now.size() - 1;
        int choices = now.plan.size() + 2;
        int ways = (int) Math.round(Math.pow(choices, others));
        int[] best = null;
        for (int way = 0; way < ways; way++) {
            int[] times = new int[others];
            for (int i = others - 1, rest = way; i >= 0; i--, rest /= choices) {
                times[i] = rest % choices == choices - 1 ? 9 : rest % choices;
            }
            int has = penceBy(person, times);
            if (best == null || has > best[0]) {
                best = new int[others + 1];
                best[0] = has;
                System.arraycopy(times, 0, best, 1, others);
            }
        }
        return best;
    }

    public int most(int person) {
        return is(person) ? bestTimes(person)[0] : BAD;
    }

    public int when(int person, int other) {
        return two(person, other) ? bestTimes(person)[1 + (other > person ? other - 1 : other)] : BAD;
    }

    /** What all do from a turn on, and behind that what all have then. */
    private static int[] play(State s, int turn) {
        int n = s.size();
        if (turn == n) {
            int[] end = new int[2 * n];
            for (int i = 0; i < n; i++) end[n + i] = s.pence(i);
            return end;
        }
        int[] best = play(s, turn + 1);
        best[turn] = 9;
        for (int b = n - 1; b >= 0; b--) {
            if (b == turn || !s.lawful(turn, b)) continue;
            State after = s.copy();
            after.tryAsk(turn, b);
            int[] end = play(after, turn + 1);
            end[turn] = b;
            if (end[n + turn] > best[n + turn] || end[n + turn] == best[n + turn] && best[turn] != 9) best = end;
        }
        return best;
    }

    public int turns(int person) {
        return is(person) ? play(now, 0)[person] : BAD;
    }

    public int ends(int person) {
        return is(person) ? play(now, 0)[now.size() + person] : BAD;
    }

    private static List<List<Integer>> rowsOf(int n) {
        List<List<Integer>> rows = new ArrayList<>();
        rows.add(new ArrayList<>());
        for (int length = 1; length <= n; length++) {
            List<List<Integer>> longer = new ArrayList<>();
            for (List<Integer> row : rows) {
                for (int place = 0; place < n; place++) {
                    if (!row.contains(place)) {
                        List<Integer> next = new ArrayList<>(row);
                        next.add(place);
                        longer.add(next);
                    }
                }
            }
            rows = longer;
        }
        return rows;
    }

    private int[] penceInOrder(List<Integer> row) {
        State s = now.copy();
        for (int place : row) s.tryAsk(now.plan.get(place)[0], now.plan.get(place)[1]);
        return s.people.stream().mapToInt(p -> p[1]).toArray();
    }

    public int order(int i) {
        if (i < -1 || i > 5) return BAD;
        if (now.plan.size() > 6) return FULL;
        if (now.size() == 0 || i >= now.plan.size()) return NONE;
        int least = Integer.MAX_VALUE;
        List<Integer> first = null;
        for (List<Integer> row : rowsOf(now.plan.size())) {
            int[] pence = penceInOrder(row);
            int span = Arrays.stream(pence).max().getAsInt() - Arrays.stream(pence).min().getAsInt();
            if (span < least) {
                least = span;
                first = row;
            }
        }
        return i == -1 ? least : first.get(i);
    }

    public int so(int set, int pence) {
        if (set <= 0 || set >= Math.pow(2, now.size()) || pence < 0 || pence > 99999) return BAD;
        if (now.plan.size() > 6) return FULL;
        int many = 0;
        for (List<Integer> row : rowsOf(now.plan.size())) {
            int[] end = penceInOrder(row);
            boolean all = true;
            for (int who = 0; who < end.length; who++) all &= (set >> who & 1) == 0 || end[who] == pence;
            many += all ? 1 : 0;
        }
        return many;
    }

    public long exact(int person, int n, int part) {
        if (!is(person) || n < 1 || n > 3 || part < 0 || part > 1) return BAD;
        BigInteger[][] have = new BigInteger[now.size()][];
        for (int i = 0; i < have.length; i++) have[i] = new BigInteger[] {BigInteger.valueOf(now.pence(i)), BigInteger.ONE};
        for (int time = 0; time < n; time++) {
            for (int[] p : now.plan) {
                if (now.strangers[p[0]][p[1]]) continue;
                BigInteger[] half = {have[p[1]][0], have[p[1]][1].shiftLeft(1)};
                BigInteger[] a = have[p[0]];
                have[p[1]] = half;
                have[p[0]] = new BigInteger[] {a[0].multiply(half[1]).add(half[0].multiply(a[1])), a[1].multiply(half[1])};
            }
        }
        BigInteger common = have[person][0].gcd(have[person][1]);
        return have[person][part].divide(common).longValueExact();
    }

    private int penceIfShunned(int person, int other) {
        State s = now.copy();
        for (int[] p : s.plan) {
            if (p[0] != other || p[1] != person) s.tryAsk(p[0], p[1]);
            if (p[2] == 1) s.endWeek();
        }
        return s.pence(person);
    }

    public int shun(int person) {
        if (!is(person)) return BAD;
        int best = 9;
        for (int other = 0; other < now.size(); other++) {
            if (other != person && penceIfShunned(person, other) > penceIfShunned(person, best)) best = other;
        }
        return best;
    }

    public int image() {
        image = now.copy();
        return 1;
    }

    public int restore() {
        if (image == null) return NONE;
        now = image.copy();
        return 1;
    }

    private static boolean fits(Object sheet, int lane) {
        return lane == 0 ? sheet instanceof byte[] : lane == 1 ? sheet instanceof int[] : sheet instanceof long[];
    }

    private static int length(Object sheet) {
        return java.lang.reflect.Array.getLength(sheet);
    }

    private int find(int sheet, int lane, long from, long n) {
        if (sheets[sheet] == null) return NULL;
        if (!fits(sheets[sheet], lane)) return CAST;
        return from < 0 || from + n > length(sheets[sheet]) ? INDEX : 0;
    }

    private static boolean names(int sheet, int lane) {
        return sheet >= 0 && sheet < 4 && lane >= 0 && lane < 3;
    }

    public int who(int sheet, int lane, int from, int k, int i) {
        if (!names(sheet, lane) || k < 1 || k > 3 || i < -1 || i >= k) return BAD;
        int n = now.size();
        int found = find(sheet, lane, from, 2L * n);
        if (found != 0) return found;
        int[] told = new int[2 * n];
        for (int j = 0; j < 2 * n; j++) {
            long item = java.lang.reflect.Array.getLong(sheets[sheet], from + j);
            if (item < 0 || item > 99999) return NOT;
            told[j] = (int) item;
        }
        List<int[]> rows = new ArrayList<>();
        int pairs = n * (n - 1);
        for (int code = 0; code < Math.pow(pairs, k); code++) {
            int[] row = new int[k];
            for (int j = k - 1, rest = code; j >= 0; j--, rest /= pairs) row[j] = askingOf(rest % pairs, n);
            if (leadsTo(row, told)) rows.add(row);
        }
        return rows.isEmpty() ? NONE : i == -1 ? rows.size() : rows.get(0)[i];
    }

    /** The pairs of unlike people by their numbers. */
    private static int askingOf(int pair, int n) {
        int a = pair / (n - 1);
        int b = pair % (n - 1);
        return 10 * a + (b < a ? b : b + 1);
    }

    private boolean leadsTo(int[] row, int[] told) {
        State s = now.copy();
        s.endWeek();
        for (int j = 0; j < s.size(); j++) s.people.get(j)[1] = told[j];
        for (int asking : row) {
            if (!s.tryAsk(asking / 10, asking % 10)) return false;
        }
        for (int j = 0; j < s.size(); j++) {
            if (s.pence(j) != told[s.size() + j]) return false;
        }
        return true;
    }

    public int sheet(int sheet, int lane, int n) {
        if (!names(sheet, lane) || n > 24) return BAD;
        if (n < 0) return SIZE;
        sheets[sheet] = lane == 0 ? new byte[n] : lane == 1 ? new int[n] : new long[n];
        return n;
    }

    public int drop(int sheet) {
        if (!names(sheet, 0)) return BAD;
        if (sheets[sheet] == null) return NULL;
        int had = length(sheets[sheet]);
        sheets[sheet] = null;
        return had;
    }

    private void put(int sheet, int i, long v) {
        if (sheets[sheet] instanceof byte[] bytes) bytes[i] = (byte) v;
        if (sheets[sheet] instanceof int[] ints) ints[i] = (int) v;
        if (sheets[sheet] instanceof long[] longs) longs[i] = v;
    }

    public int item(int sheet, int lane, int i, long v) {
        if (!names(sheet, lane)) return BAD;
        int found = find(sheet, lane, i, 1);
        if (found != 0) return found;
        put(sheet, i, v);
        return 1;
    }

    public int film(int sheet, int lane, int from) {
        if (!names(sheet, lane)) return BAD;
        int found = find(sheet, lane, from, now.size());
        if (found != 0) return found;
        for (int i = 0; i < now.size(); i++) put(sheet, from + i, now.pence(i));
        return now.size();
    }

    public int copy(int from, int i, int to, int j, int n) {
        if (!names(from, 0) || !names(to, 0)) return BAD;
        if (sheets[from] == null || sheets[to] == null) return NULL;
        if (sheets[from].getClass() != sheets[to].getClass()) return CAST;
        try {
            System.arraycopy(sheets[from], i, sheets[to], j, n);
        } catch (IndexOutOfBoundsException e) {
            return INDEX;
        }
        return n;
    }
}
