import java.util.ArrayList;
import java.util.List;

/** Every call with every edge of each of its numbers, in several states, held against the model; none throws. */
public final class SweepTest {
    private static final String WHO = "MIN,-1,0,1,4,5,9,MAX";
    private static final String SHEET = "MIN,-1,0,1,2,3,4,MAX";
    private static final String LANE = "MIN,-1,0,1,2,3,MAX";
    private static final String PLACE = "MIN,-1,0,1,2,3,4,14,15,23,24,25,MAX";
    private static final String PENCE = "MIN,-1,0,1,9999,10000,MAX";

    /** A call each, with the numbers that stand for each of its places. */
    private static final String[] CALLS = {
        "told " + WHO + " MIN,-1,0,1,2,3,4,5,MAX", "count MIN,-1,0,1,2,3,4,5,MAX", "most " + WHO, "when " + WHO + " " + WHO, "turns " + WHO, "ends " + WHO,
        "order MIN,-2,-1,0,1,5,6,MAX", "so MIN,-1,0,1,2,3,4,16,31,32,MAX MIN,-1,0,8,99999,100000,MAX", "exact " + WHO + " MIN,0,1,2,3,4,MAX MIN,-1,0,1,2,MAX",
        "shun " + WHO, "who -1,0,1,2,3,4 -1,0,1,2,3 MIN,-1,0,1,4,14,15,24,25,MAX 0,1,2,4 -2,-1,0,1,2", "who 0,1 0,1,2 0,14 3 -2,-1,0,2,3",
        "item " + SHEET + " " + LANE + " " + PLACE + " LONGMIN,-1,0,200,4294967297,LONGMAX", "film " + SHEET + " " + LANE + " " + PLACE,
        "copy -1,0,1,3,4 MIN,-1,0,1,3,4,24,25,MAX -1,0,1,3,4 MIN,-1,0,3,24,25,MAX MIN,-1,0,1,3,24,25,MAX", "drop MIN,-1,4,MAX,3",
        "sheet " + SHEET + " " + LANE + " MIN,-1,24,25,MAX,0,10", "knows " + WHO + " " + WHO + " false,true", "ask " + WHO + " " + WHO, "week", "run", "image",
        "set " + WHO + " " + PENCE, "restore", "type LONGMIN,-1,0,31,32,126,127,255,0x6631,0x2020202020202020,LONGMAX MIN,-1,0,1,2,8,9,MAX", "people", "plan",
        "person MIN,-1,0,1,2,3,4,MAX " + PENCE};

    private static final String[][] STATES = {
        {},
        {"sheet 0 0 0", "sheet 1 1 24"},
        {"people 'f9'", "sheet 0 1 2", "film 0 1 0"},
        {"people 'f9,c8'", "plan '0>1;1>0'", "sheet 0 0 4", "film 0 0 0", "ask 0 1", "film 0 0 2", "sheet 1 0 24", "image"},
        {"people 'f99,c98,t97,w96,f0'", "plan '0>1;1>2,2>3,3>4,4>0,0>2'", "ask 3 1", "sheet 0 2 24", "film 0 2 0", "film 0 2 5", "film 0 2 14", "film 0 2 19", "sheet 1 2 10"},
        {"people 'f9999,w9999,f1,t2'", "plan '0>1;1>0,2>3;3>2,0>1;1>0;0>2;2>0;'", "knows 1 2 false", "image", "ask 0 1", "sheet 0 1 24", "film 0 1 20", "sheet 3 1 3"}};

    private static final int CALLS_OF_ONE = 400;

    private final Check check = new Check();
    private Calls real;
    private Calls plain;
    private int made;

    public static void main(String[] args) {
        SweepTest test = new SweepTest();
        for (String[] state : STATES) {
            for (String calls : CALLS) test.sweep(state, calls);
        }
        test.check.end("sweep");
    }

    private void begin(String[] state) {
        real = new Calls(new HalfAsked());
        plain = new Calls(new Model());
        for (String call : state) check.due("ahead: " + call, real.read(call), plain.read(call));
        made = 0;
    }

    private void sweep(String[] state, String calls) {
        begin(state);
        for (String call : expand(calls)) {
            if (made++ == CALLS_OF_ONE) begin(state);
            long got = real.read(call);
            check.due(String.join(" ", state) + " .. " + call, got, plain.read(call));
            check.holds(call + " throws nothing", got != Calls.THREW);
        }
        for (String call : new String[] {"count 0", "count 1", "count 2", "count 3", "type 32 1"}) {
            check.due(String.join(" ", state) + " .. " + calls + " .. " + call, real.read(call), plain.read(call));
        }
    }

    /** All calls that take one number for each place. */
    private static List<String> expand(String calls) {
        List<String> rows = List.of("");
        for (String place : calls.split(" ")) {
            List<String> longer = new ArrayList<>();
            for (String row : rows) {
                for (String number : place.split(",")) longer.add(row + " " + number);
            }
            rows = longer;
        }
        return rows;
    }
}
