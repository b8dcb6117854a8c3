import java.util.ArrayList;
import java.util.Arrays;
import java.util.List;
import java.util.Random;

/** Random runs of calls, each answer held against the model's. */
public final class RandomRunsTest {
    private static final int RUNS = 2500;
    private static final int CALLS = 60;
    private static final int[] EDGES = {
        Integer.MIN_VALUE, -2, -1, 5, 6, 7, 9, 24, 25, 31, 32, 9999, 10000, 99999, 100000, Integer.MAX_VALUE};

    private final Check check = new Check();
    private final Random random;
    private final Model m = new Model();
    private final Calls real = new Calls(new HalfAsked());
    private final Calls plain = new Calls(m);
    private final List<String> calls = new ArrayList<>();
    private final int greatest;

    private RandomRunsTest(long seed) {
        random = new Random(seed);
        greatest = new int[] {3, 12, 40, 300, 9999}[random.nextInt(5)];
    }

    private long call(String name, long... args) {
        String text = name + Arrays.toString(args);
        long want = plain.make(name, args);
        calls.add(text + " -> " + want);
        check.due(text, real.make(name, args), want);
        check.holds(text + " throws nothing", want != Calls.THREW);
        return want;
    }

    private int pick(int bound) {
        return random.nextInt(24) == 0 ? EDGES[random.nextInt(EDGES.length)] : random.nextInt(bound);
    }

    private int someone() {
        return pick(Math.max(1, m.count(0)));
    }

    private String blanks() {
        return random.nextInt(6) == 0 ? " ".repeat(1 + random.nextInt(2)) : "";
    }

    private String peopleText() {
        int n = random.nextInt(30) == 0 ? 6 : 1 + random.nextInt(5);
        StringBuilder text = new StringBuilder();
        for (int i = 0; i < n; i++) {
            int pence = random.nextInt(40) == 0 ? 9998 + random.nextInt(4) : random.nextInt(greatest + 1);
            text.append(i > 0 ? "," : "").append(blanks()).append("fctw".charAt(random.nextInt(4))).append(blanks());
            text.append("0".repeat(random.nextInt(9) == 0 ? 6 : 0)).append(pence).append(blanks());
        }
        return spoiled(text.toString());
    }

    private String planText() {
        int n = random.nextInt(30) == 0 ? 9 : 1 + random.nextInt(random.nextInt(4) == 0 ? 8 : 4);
        int people = Math.max(2, m.count(0));
        StringBuilder text = new StringBuilder();
        for (int i = 0; i < n; i++) {
            int by = random.nextInt(people);
            int of = (by + 1 + random.nextInt(people - 1)) % people;
            text.append(blanks()).append(by).append(blanks()).append('>').append(blanks()).append(of).append(blanks());
            text.append(i < n - 1 ? (random.nextInt(3) == 0 ? ";" : ",") : (random.nextInt(3) == 0 ? ";" : ""));
        }
        return spoiled(text.toString());
    }

    private String spoiled(String text) {
        if (random.nextInt(5) != 0) return text;
        int at = random.nextInt(text.length() + 1);
        String sign = String.valueOf("fctw,;>0159 x~".charAt(random.nextInt(14)));
        String rest = text.substring(at);
        switch (random.nextInt(3)) {
            case 0: return text.substring(0, at);
            case 1: return text.substring(0, at) + sign + rest;
            default: return text.substring(0, at) + (rest.isEmpty() ? "" : sign + rest.substring(1));
        }
    }

    private void typeText(String text) {
        for (int at = 0; at < text.length(); ) {
            int n = Math.min(text.length() - at, 1 + random.nextInt(8));
            call("type", Check.packed(text.substring(at, at + n)) | (n < 8 ? random.nextLong() << 8 * n : 0), n);
            at += n;
        }
    }

    /** What all have on two Saturdays, with a few askings between them, and who asked. */
    private void fillSheet() {
        int sheet = random.nextInt(4);
        int lane = random.nextInt(3);
        int from = random.nextInt(4);
        int n = m.count(0);
        call("sheet", sheet, lane, random.nextInt(5) == 0 ? random.nextInt(25) : from + 2 * n + random.nextInt(4));
        call("film", sheet, lane, from);
        call("week");
        int k = 1 + random.nextInt(3);
        for (int i = 0; i < k; i++) call("ask", someone(), someone());
        call("film", sheet, lane, from + n);
        call("who", sheet, lane, from, k, -1);
        for (int i = 0; i < k; i++) call("who", sheet, lane, from, k, i);
    }

    private void tellAll() {
        for (int what = 0; what < 5; what++) {
            call("count", what);
            for (int who = 0; who < m.count(0); who++) call("told", who, what);
        }
    }

    private void sheetCall() {
        int sheet = pick(4);
        int lane = pick(3);
        switch (random.nextInt(6)) {
            case 0: call("sheet", sheet, lane, pick(25)); break;
            case 1: call("item", sheet, lane, pick(25), random.nextInt(4) == 0 ? random.nextLong() : pick(greatest)); break;
            case 2: call("film", sheet, lane, pick(25)); break;
            case 3: call("copy", sheet, pick(25), pick(4), pick(25), pick(12)); break;
            case 4: call("who", sheet, lane, pick(20), pick(4), pick(5) - 1); break;
            default: if (random.nextInt(3) == 0) call("drop", sheet); break;
        }
    }

    private void searchCall() {
        switch (random.nextInt(10)) {
            case 0: call("most", someone()); break;
            case 1: call("when", someone(), someone()); break;
            case 2: call("turns", someone()); break;
            case 3: call("ends", someone()); break;
            case 4: call("order", pick(7) - 1); break;
            case 5: call("so", pick(Math.max(1, 1 << m.count(0))), soPence()); break;
            case 6: call("exact", someone(), 1 + pick(3), pick(2)); break;
            case 7: call("shun", someone()); break;
            case 8: call("told", someone(), pick(5)); break;
            default: call("count", pick(5)); break;
        }
    }

    /** What one has behind the plan as it stands, so that some order does fit. */
    private int soPence() {
        return random.nextInt(3) == 0 ? pick(greatest) : m.count(0) == 0 ? 0 : Math.max(0, m.told(random.nextInt(m.count(0)), 1));
    }

    private void changingCall() {
        switch (random.nextInt(13)) {
            case 0: call("person", pick(4), pick(greatest + 1)); break;
            case 1: call("set", someone(), pick(greatest + 1)); break;
            case 2: call("knows", someone(), someone(), random.nextInt(2)); break;
            case 3: case 4: call("ask", someone(), someone()); break;
            case 5: call("week"); break;
            case 6: typeText(peopleText()); call("people"); break;
            case 7: case 8: typeText(planText()); call("plan"); break;
            case 9: call("run"); break;
            case 10: call("image"); break;
            case 11: call("restore"); break;
            default: call("type", random.nextLong() & 0x7f7f7f7f7f7f7f7fL, pick(9)); break;
        }
    }

    private boolean run() {
        if (random.nextInt(8) != 0) {
            typeText(peopleText());
            call("people");
            typeText(planText());
            call("plan");
        }
        while (calls.size() < CALLS && check.isClean()) {
            int kind = random.nextInt(10);
            if (kind < 4) searchCall();
            else if (kind < 7) changingCall();
            else if (kind < 9) sheetCall();
            else fillSheet();
        }
        tellAll();
        if (!check.isClean()) calls.forEach(System.out::println);
        return check.isClean();
    }

    /** The dearest searches with all askings of a plan and all people, which random runs seldom meet. */
    private boolean runFull() {
        StringBuilder people = new StringBuilder();
        for (int i = 0; i < 5; i++) people.append(i > 0 ? "," : "").append("fctw".charAt(random.nextInt(4))).append(random.nextInt(greatest + 1));
        typeText(people.toString());
        call("people");
        StringBuilder plan = new StringBuilder();
        for (int i = 0; i < 8; i++) {
            int by = random.nextInt(5);
            plan.append(by).append('>').append((by + 1 + random.nextInt(4)) % 5).append(random.nextInt(3) == 0 ? ";" : i < 7 ? "," : "");
        }
        typeText(plan.toString());
        call("plan");
        int person = random.nextInt(5);
        call("most", person);
        for (int other = 0; other < 5; other++) call("when", person, other);
        call("order", -1);
        call("so", 1, 0);
        call("shun", person);
        call("exact", person, 3, 0);
        call("exact", person, 3, 1);
        if (!check.isClean()) calls.forEach(System.out::println);
        return check.isClean();
    }

    public static void main(String[] args) {
        Check all = new Check();
        for (int seed = 0; seed < RUNS && all.isClean(); seed++) {
            all.holds("random run " + seed, new RandomRunsTest(seed).run());
        }
        for (int seed = 0; seed < 12 && all.isClean(); seed++) {
            all.holds("full run " + seed, new RandomRunsTest(-1 - seed).runFull());
        }
        all.end("random runs");
    }
}
