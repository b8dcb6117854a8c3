import java.util.ArrayList;
import java.util.List;

/**
 * What is refused changes nothing, but as told; nor does a call that only tells something. Each call is made
 * on one of two like objects, and all that can be seen of both must be alike behind it.
 */
public final class RefusedTest {
    private static final Check check = new Check();

    /** Five people who have asked and do not all know each other, a plan of 7, an image of others, sheets. */
    private static final String[] RICH = {
        "people 'f90,c80,t70,w60,f0'", "plan '0>1;1>2,2>3,3>0;0>2,1>3,2>0'", "knows 0 3 false", "ask 2 0", "image",
        "set 1 77", "ask 3 1", "plan '1>0,1>2;2>3,3>0,0>2;1>3,2>0'", "knows 1 4 false",
        "sheet 0 1 3", "item 0 1 0 11", "item 0 1 1 12", "item 0 1 2 13",
        "sheet 1 0 3", "item 1 0 0 21", "item 1 0 1 22", "item 1 0 2 23",
        "sheet 2 2 12", "item 2 2 0 31", "item 2 2 11 32"};
    private static final String[] ITEMS = {
        "holds 0 1 0 11", "holds 0 1 1 12", "holds 0 1 2 13", "holds 1 0 0 21", "holds 1 0 1 22", "holds 1 0 2 23",
        "holds 2 2 0 31", "holds 2 2 1 0", "holds 2 2 11 32"};
    private static final String TAPE = "type 'f1" + " ".repeat(77) + "'";

    private static final String[] BAD = {
        "person -1 0", "person 4 0", "person 0 -1", "person 0 10000", "set -1 5", "set 5 5", "set 0 -1", "set 0 10000",
        "told -1 0", "told 5 0", "told 0 -1", "told 0 5", "knows 0 0 false", "knows 5 0 false", "knows 0 5 false", "knows -1 0 false",
        "ask 0 0", "ask 5 0", "ask 0 5", "ask -1 0", "ask 0 -1", "type 32 0", "type 32 9", "type 31 1", "type 127 1",
        "count -1", "count 5", "most -1", "most 5", "when 0 0", "when 5 0", "when 0 5", "turns -1", "turns 5", "ends -1", "ends 5",
        "order -2", "order 6", "so 0 1", "so 32 1", "so 1 -1", "so 1 100000", "exact 5 1 0", "exact 0 0 0", "exact 0 4 0", "exact 0 1 2",
        "exact 0 1 -1", "shun -1", "shun 5", "who 4 1 0 1 0", "who 0 3 0 1 0", "who 2 2 0 0 -1", "who 2 2 0 4 0", "who 2 2 0 1 1", "who 2 2 0 1 -2",
        "sheet 4 0 1", "sheet -1 0 1", "sheet 0 3 1", "sheet 0 -1 1", "sheet 0 0 25", "sheet 0 1 MAX", "drop -1", "drop 4",
        "item 4 1 0 5", "item 0 3 0 5", "film 4 2 0", "film 2 3 0", "copy 4 0 0 0 1", "copy 0 0 4 0 1", "copy -1 0 0 0 1"};
    private static final String[] NOT = {"ask 0 3", "ask 0 4", "ask 2 0", "who 2 2 0 1 0"};
    private static final String[] FULL = {"person 0 0", "type 0x2020 2", "type 0x6666666666666666 8", "order 0", "order -1", "so 1 1"};
    private static final String[] NULL = {"drop 3", "who 3 2 0 1 0", "item 3 1 0 5", "film 3 1 0", "copy 0 0 3 0 1", "copy 3 0 0 0 1"};
    private static final String[] CAST = {"who 2 1 0 1 0", "item 0 0 0 99", "item 0 2 0 99", "film 2 1 0", "film 2 0 0", "copy 0 0 1 0 2", "copy 2 0 0 0 1"};
    private static final String[] INDEX = {
        "who 2 2 3 1 0", "who 2 2 -1 1 0", "item 0 1 3 99", "item 0 1 -1 99", "film 0 1 0", "film 0 1 1", "film 1 0 0", "film 2 2 8", "film 2 2 -1",
        "copy 0 0 0 1 3", "copy 0 1 0 0 3", "copy 0 0 0 -1 2", "copy 0 -1 0 0 2", "copy 0 0 0 0 4", "copy 0 0 0 0 -1"};
    private static final String[] SIZE = {"sheet 0 1 -1", "sheet 0 0 MIN", "sheet 3 2 -1"};
    private static final String[] TELLING = {
        "told 0 0", "told 0 1", "told 0 2", "told 0 3", "told 2 4", "count 0", "count 1", "count 2", "count 3", "count 4", "most 0", "most 4",
        "when 1 2", "turns 0", "ends 3", "exact 0 3 0", "exact 4 1 1", "shun 0", "shun 2"};

    public static void main(String[] args) {
        refused("BAD", BAD);
        refused("FULL", FULL);
        refused("NULL", NULL);
        refused("CAST", CAST);
        refused("INDEX", INDEX);
        refused("SIZE", SIZE);
        notDone();
        noImage();
        faults();
        for (String call : TELLING) changesNothing(join(RICH, TAPE), call, null);
        tellingOfFew();
        check.end("refused");
    }

    private static void refused(String want, String[] calls) {
        for (String call : calls) changesNothing(join(RICH, TAPE), call, want);
    }

    /** The last of these needs an item that is no sum of pence. */
    private static void notDone() {
        for (String call : NOT) changesNothing(join(join(RICH, TAPE), "item 2 2 5 -1"), call, "NOT");
    }

    private static void noImage() {
        String[] few = {"people 'f9,c8'", "plan '0>1'", "ask 1 0"};
        changesNothing(few, "restore", "NONE");
        changesNothing(few, "order 1", "NONE");
        changesNothing(join(few, "sheet 0 1 4"), "who 0 1 0 1 0", "NONE");
    }

    /** But as told: the tape is empty behind a fault, and all else stays. */
    private static void faults() {
        changesNothing(RICH, "people 'f1,c2,x' ", "-26");
        changesNothing(RICH, "people 'f1,c10000' ", "-24");
        changesNothing(RICH, "people ''", "-20");
        changesNothing(RICH, "plan '0>1;1>0,x'", "-28");
        changesNothing(RICH, "plan '0>1;1>1'", "-26");
        changesNothing(RICH, "plan ''", "-20");
    }

    private static void tellingOfFew() {
        String[] few = {"people 'f9,c8,t7'", "plan '0>1;1>2,2>0'", "ask 1 0", "sheet 0 1 6", "film 0 1 0", "week", "ask 0 2", "film 0 1 3"};
        for (String call : new String[] {"order -1", "order 0", "order 2", "so 1 9", "so 7 3", "who 0 1 0 1 -1", "who 0 1 0 1 0", "who 0 1 0 3 -1"}) {
            changesNothing(few, call, null);
        }
    }

    private static String[] join(String[] calls, String last) {
        String[] joined = java.util.Arrays.copyOf(calls, calls.length + 1);
        joined[calls.length] = last;
        return joined;
    }

    private static void changesNothing(String[] ahead, String call, String want) {
        Calls with = new Calls(new HalfAsked());
        Calls without = new Calls(new HalfAsked());
        for (String each : ahead) {
            check.holds("ahead: " + each, with.read(each) >= 0);
            without.read(each);
        }
        long got = with.read(call);
        if (want != null) check.due(call, got, Calls.number(want));
        check.holds(call + " throws nothing", got != Calls.THREW);
        List<String> seen = seen(with);
        List<String> due = seen(without);
        for (int i = 0; i < due.size(); i++) {
            check.holds("behind " + call + " is seen " + seen.get(i) + ", due is " + due.get(i), seen.get(i).equals(due.get(i)));
        }
    }

    /** All that can be seen of an object, which is used up by it. */
    private static List<String> seen(Calls x) {
        List<String> seen = new ArrayList<>();
        see(seen, x, "type 32 1");
        see(seen, x, "drop 3");
        seePeople(seen, x);
        for (String item : ITEMS) see(seen, x, item);
        // What is behind the image is seen last, as items are told by others in the people's place.
        see(seen, x, "restore");
        seePeople(seen, x);
        for (String call : new String[] {"week", "run", "count 1", "told 0 1", "told 1 1", "drop 0", "drop 1", "drop 2"}) see(seen, x, call);
        return seen;
    }

    private static void seePeople(List<String> seen, Calls x) {
        for (int i = 0; i < 5; i++) {
            see(seen, x, "count " + i);
            for (int what = 0; what < 5; what++) see(seen, x, "told " + i + " " + what);
            see(seen, x, "most " + i);
            see(seen, x, "when " + i + " " + (i + 1) % 5);
            see(seen, x, "when " + i + " " + (i + 3) % 5);
            see(seen, x, "turns " + i);
            see(seen, x, "ends " + i);
            see(seen, x, "exact " + i + " 2 0");
            see(seen, x, "exact " + i + " 1 1");
            see(seen, x, "shun " + i);
            see(seen, x, "order " + (i - 1));
        }
    }

    private static void see(List<String> seen, Calls x, String call) {
        long answer = x.read(call);
        check.holds(call + " throws nothing", answer != Calls.THREW);
        seen.add(call + " -> " + answer);
    }
}
