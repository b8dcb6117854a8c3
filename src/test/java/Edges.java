import java.util.HashSet;
import java.util.Set;

/** Edges: a sentence of the document each, with a run of calls on a new object that would tell if it were broken. */
final class Edges {
    private final Check check = new Check();
    private final Set<String> told = new HashSet<>();

    /**
     * A run of calls, as Calls reads them; behind " = " stands what is due, and a call without it is only
     * not refused. The model makes the same run, as random runs rely on it.
     */
    void edge(String sentence, String... calls) {
        check.holds("'" + sentence + "' is told once", told.add(sentence));
        make(sentence, new HalfAsked(), calls);
        make("(model) " + sentence, new Model(), calls);
    }

    private void make(String sentence, Object target, String... calls) {
        Calls made = new Calls(target);
        for (String call : calls) {
            int due = call.lastIndexOf(" = ");
            long got = made.read(due < 0 ? call : call.substring(0, due));
            String what = "[" + sentence + "] " + call + ":";
            if (due < 0) {
                check.holds(what + " not refused", got >= 0);
            } else {
                check.due(what, got, Calls.number(call.substring(due + 3)));
            }
        }
    }

    /** One call after another, each due to be answered alike. */
    static String[] all(String want, String... calls) {
        String[] due = new String[calls.length];
        for (int i = 0; i < calls.length; i++) due[i] = calls[i] + " = " + want;
        return due;
    }

    static String[] join(String[]... rows) {
        java.util.List<String> joined = new java.util.ArrayList<>();
        for (String[] row : rows) joined.addAll(java.util.List.of(row));
        return joined.toArray(new String[0]);
    }

    static String[] run(String... calls) {
        return calls;
    }

    Check check() {
        return check;
    }

    void end(String name) {
        System.out.println(name + ": " + told.size() + " sentences");
        check.end(name);
    }
}
