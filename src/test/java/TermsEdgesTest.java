/** What the document says ahead of its promises, sentence by sentence, at its edges. */
public final class TermsEdgesTest {
    private static final Edges edges = new Edges();
    private static final String SEVEN = "0>1,0>1,0>1,0>1,0>1,0>1,0>1";
    private static final String EIGHT_WEEKS = "0>1;1>0;0>1;1>0;0>1;1>0;0>1;1>0;";

    private static void edge(String sentence, String... calls) {
        edges.edge(sentence, calls);
    }

    public static void main(String[] args) {
        refusals();
        people();
        askings();
        weeks();
        plans();
        nowOn();
        most();
        when();
        turns();
        orders();
        so();
        exact();
        whoAsked();
        shun();
        peopleTexts();
        planTexts();
        sheets();
        lastCalls();
        edges.end("edges of the terms");
    }

    private static void refusals() {
        int[] numbers = {HalfAsked.BAD, HalfAsked.NOT, HalfAsked.FULL, HalfAsked.NONE, HalfAsked.NULL, HalfAsked.CAST,
            HalfAsked.INDEX, HalfAsked.SIZE};
        int[] told = {-1, -2, -3, -4, -11, -12, -13, -14};
        for (int i = 0; i < told.length; i++) edges.check().due("refusal " + i, numbers[i], told[i]);
        edge("of several the first that a call names: person, BAD ahead of FULL",
            "people 'f1,f1,f1,f1,f1'", "person 4 0 = BAD", "person 0 10000 = BAD", "person 0 0 = FULL");
        edge("of several the first: ask, BAD ahead of NOT",
            "people 'f0,f0'", "ask 0 0 = BAD", "ask 2 0 = BAD", "ask 0 2 = BAD", "ask 0 1 = NOT");
        edge("of several the first: type, BAD ahead of FULL", "type '" + " ".repeat(80) + "'",
            "type 31 1 = BAD", "type 0x7f20202020202020 8 = BAD", "type 32 0 = BAD", "type 32 9 = BAD", "type 32 1 = FULL");
        edge("of several the first: order, BAD ahead of FULL",
            "people 'f1,f1'", "plan '" + SEVEN + "'", "order -2 = BAD", "order 6 = BAD", "order 5 = FULL");
        edge("of several the first: order, BAD ahead of NONE", "order -2 = BAD", "order 6 = BAD", "order 5 = NONE");
        edge("of several the first: so, BAD ahead of FULL", "people 'f1,f1'", "plan '" + SEVEN + "'",
            "so 0 0 = BAD", "so 4 0 = BAD", "so 1 -1 = BAD", "so 1 100000 = BAD", "so 1 0 = FULL");
        edge("of several the first: sheet, BAD ahead of SIZE",
            "sheet 4 0 -1 = BAD", "sheet -1 0 -1 = BAD", "sheet 0 3 -1 = BAD", "sheet 0 -1 -1 = BAD", "sheet 0 0 -1 = SIZE");
        edge("NULL, CAST, INDEX in this order, behind BAD: item", "item 0 3 9 0 = BAD", "item 4 0 9 0 = BAD", "item 0 1 9 0 = NULL",
            "sheet 0 0 2", "item 0 3 9 0 = BAD", "item 0 1 9 0 = CAST", "item 0 0 9 0 = INDEX");
        edge("NULL, CAST, INDEX in this order, behind BAD: film", "people 'f1,f1'", "film 0 3 9 = BAD", "film 4 0 9 = BAD",
            "film 0 1 9 = NULL", "sheet 0 0 2", "film 0 3 9 = BAD", "film 0 1 9 = CAST", "film 0 0 9 = INDEX");
        edge("NULL, CAST, INDEX in this order, behind BAD: copy", "copy 4 9 0 9 -1 = BAD", "copy 0 9 4 9 -1 = BAD",
            "copy 0 9 1 9 -1 = NULL", "sheet 0 0 2", "copy 0 9 1 9 -1 = NULL", "copy 1 9 0 9 -1 = NULL", "copy 0 9 -1 9 -1 = BAD",
            "sheet 1 1 2", "copy 0 9 1 9 -1 = CAST", "copy 1 9 0 9 -1 = CAST", "sheet 1 0 2", "copy 0 9 1 9 -1 = INDEX");
        edge("NULL, CAST, INDEX in this order, behind BAD, ahead of NOT and NONE: who", "people 'f1,f1'", "who 4 0 9 1 0 = BAD",
            "who 0 3 9 1 0 = BAD", "who 0 1 9 0 -1 = BAD", "who 0 1 9 1 1 = BAD", "who 0 1 9 1 0 = NULL", "sheet 0 0 5",
            "who 0 1 9 4 0 = BAD", "who 0 1 9 1 -2 = BAD", "item 0 0 0 -1", "who 0 1 9 1 0 = CAST", "who 0 0 2 1 0 = INDEX",
            "who 0 0 0 1 0 = NOT", "item 0 0 0 0", "who 0 0 0 1 0 = NONE");
        edge("Sets are bits: whom he knows, whom he has asked, so",
            "people 'f0,f6,f0,f6,f6'", "told 2 3 = 27", "knows 2 4 false", "told 2 3 = 11", "ask 2 3", "ask 2 1", "told 2 4 = 10",
            "so 26 3 = 0", "so 10 3 = 1", "so 16 6 = 1");
        edge("Divisions are cut", "people 'c3,t5,t2,f3'", "told 0 2 = 1", "told 1 2 = 1", "told 2 2 = 0", "told 3 2 = 2");
    }

    private static void people() {
        edge("PEOPLE 0 .. 4, as they come",
            "person 3 7 = 0", "person 2 6 = 1", "person 1 5 = 2", "person 0 4 = 3", "person 3 3 = 4", "told 0 1 = 7", "told 4 1 = 3",
            "told 5 1 = BAD", "told -1 1 = BAD");
        edge("have PENCE (0 .. 9999 as told)", "person 0 0 = 0", "person 0 9999 = 1", "person 0 -1 = BAD", "person 0 10000 = BAD",
            "set 0 9999 = 0", "set 0 0 = 9999", "set 0 -1 = BAD", "set 0 10000 = BAD", "people 'f0,f9999'", "people 'f10000' = -21");
        edge("PENCE not as told, but given, go above 9999",
            "people 'f9999,w9999'", "ask 0 1 = 9990", "told 0 1 = 19989", "told 0 2 = 9995", "set 0 0 = 19989");
        edge("all KNOW others at first", "person 0 1", "told 0 3 = 0", "person 0 1", "told 0 3 = 2", "told 1 3 = 1", "person 0 1",
            "person 0 1", "person 0 1", "told 0 3 = 30", "told 4 3 = 15", "knows 3 4 true = 1");
        edge("FREE gives half of the PENCE and of an odd number the odd penny, too", "people 'f0,f1,f2,f7,f9999'",
            "told 0 2 = 0", "told 1 2 = 1", "told 2 2 = 1", "told 3 2 = 4", "told 4 2 = 5000");
        edge("CLOSE gives half, cut", "people 'c0,c1,c2,c7,c9999'",
            "told 0 2 = 0", "told 1 2 = 0", "told 2 2 = 1", "told 3 2 = 3", "told 4 2 = 4999");
        edge("THIRD gives a third, cut", "people 't0,t2,t3,t5,t9998'",
            "told 0 2 = 0", "told 1 2 = 0", "told 2 2 = 1", "told 3 2 = 1", "told 4 2 = 3332");
        edge("WIDOW gives all PENCE above 9", "people 'w0,w8,w9,w10,w9999'",
            "told 0 2 = 0", "told 1 2 = 0", "told 2 2 = 0", "told 3 2 = 1", "told 4 2 = 9990");
    }

    private static void askings() {
        edge("AN ASKING is by one of another one", "people 'f8,f8'", "ask 1 1 = BAD", "knows 1 1 true = BAD", "when 1 1 = BAD",
            "plan '1>1' = -22", "told 1 3 = 1");
        edge("LAWFUL, if the first KNOWS the second",
            "people 'f8,f8'", "knows 0 1 false = 1", "ask 0 1 = NOT", "ask 1 0 = 4", "knows 0 1 true = 0", "ask 0 1 = 6");
        edge("LAWFUL, if the second has PENCE", "people 'f0,f1,f0'", "ask 0 2 = NOT", "ask 0 1 = 1", "ask 2 1 = NOT", "ask 2 0 = 1");
        edge("LAWFUL, if the first has not asked the second in this WEEK", "people 'f8,f8,f8'",
            "ask 0 1 = 4", "ask 0 1 = NOT", "ask 1 0 = 6", "ask 2 1 = 5", "ask 0 2 = 7", "week = 4", "ask 0 1 = 3", "ask 0 1 = NOT");
        edge("what the second GIVES goes from the second to the first", "people 'c3,c9,c5'",
            "ask 0 1 = 4", "told 0 1 = 7", "told 1 1 = 5", "told 2 1 = 5");
        edge("what is given may be 0", "people 'c1,w9,t2'",
            "ask 1 0 = 0", "ask 0 1 = 0", "ask 0 2 = 0", "count 2 = 3", "told 0 4 = 6", "ask 1 0 = NOT", "count 1 = 12");
    }

    private static void weeks() {
        edge("A WEEK begins anew by week(); nobody has asked then", "people 'f8,f8'", "ask 0 1", "ask 1 0", "week = 2",
            "told 0 4 = 0", "told 1 4 = 0", "count 2 = 0", "week = 0", "ask 0 1 = 5", "ask 1 0 = 6");
    }

    /** What calls found, or tried, ahead of a change is not what they find behind it. */
    private static void nowOn() {
        String[] ahead = {"people 'f16,f8'", "plan '1>0;'", "most 1 = 20", "when 1 0 = 1", "turns 0 = 1", "ends 1 = 14", "order -1 = 8", "so 1 8 = 1"};
        edge("from now on: behind person", Edges.join(ahead, Edges.run("person 0 100 = 2", "most 1 = 70", "turns 0 = 2", "turns 2 = 0", "order -1 = 92")));
        edge("from now on: behind set", Edges.join(ahead, Edges.run("set 0 0", "most 1 = 8", "when 1 0 = 0", "turns 0 = 1", "ends 1 = 6", "order -1 = 8", "so 1 0 = 1")));
        edge("from now on: behind knows", Edges.join(ahead, Edges.run("knows 1 0 false", "most 1 = 8", "turns 1 = 9", "ends 1 = 4", "order -1 = 8", "so 1 16 = 1")));
        edge("from now on: behind ask", Edges.join(ahead, Edges.run("ask 1 0 = 8", "most 1 = 20", "turns 1 = 9", "ends 0 = 16", "order -1 = 8", "so 1 8 = 1")));
        edge("from now on: behind week", Edges.join(ahead, Edges.run("ask 1 0 = 8", "ends 0 = 16", "order -1 = 8", "most 1 = 20", "week", "ends 0 = 8", "order -1 = 16",
            "most 1 = 22")));
        edge("from now on: behind people", Edges.join(ahead, Edges.run("people 'f5,f3'", "most 1 = 6", "ends 1 = 5", "turns 0 = 1", "order -1 = 2", "so 1 5 = 1")));
        edge("from now on: behind plan", Edges.join(ahead, Edges.run("plan '0>1;'", "most 1 = 14", "when 1 0 = 1", "order -1 = 16", "so 1 20 = 1")));
        edge("from now on: behind run", Edges.join(ahead, Edges.run("run = 1", "most 1 = 22", "ends 1 = 16", "ends 0 = 8", "order -1 = 16", "so 1 4 = 1")));
        edge("from now on: behind restore", Edges.join(Edges.run("people 'f5,f3'", "image"), ahead, Edges.run("restore", "most 1 = 6", "ends 1 = 5", "order -1 = 2",
            "so 1 5 = 1")));
    }

    private static void plans() {
        edge("THE PLAN is a row of up to 8 ASKINGS", "people 'f8,f8'", "plan '0>1,1>0,0>1,1>0,0>1,1>0,0>1,1>0' = 8", "count 3 = 8",
            "plan '0>1,1>0,0>1,1>0,0>1,1>0,0>1,1>0,0>1' = -51", "count 3 = 8");
        edge("behind each of which a WEEK may end", "people 'f8,f8'", "plan '" + EIGHT_WEEKS + "' = 8", "count 4 = 8", "run = 8",
            "count 2 = 0", "plan '0>1,1>0,0>1'", "count 4 = 0", "run = 2", "count 2 = 2");
        edge("the first that is not LAWFUL ends it: one who has nothing",
            "people 'f8,f0,f8'", "plan '0>2,0>1;0>2,2>0'", "run = 1", "told 0 1 = 12", "told 2 1 = 4");
        edge("the first that is not LAWFUL ends it: one whom the first does not know",
            "people 'f8,f8,f8'", "knows 0 1 false", "plan '0>2,0>1,2>0'", "run = 1", "told 2 4 = 0");
        edge("the first that is not LAWFUL ends it: asked in this WEEK",
            "people 'f8,f8'", "plan '0>1,1>0,0>1,1>0'", "run = 2", "told 0 1 = 6");
        edge("it is not done, nor is all behind: no WEEK ends there", "people 'f8,f0,f8'", "plan '0>2,0>1;'", "run = 1", "count 2 = 1");
        edge("it is run from now on", "people 'f8,f8,f8'", "plan '0>1,0>2'", "ask 0 1", "run = 0", "week", "run = 2", "run = 0",
            "told 0 1 = 18");
        edge("no PLAN is run", "run = 0", "people 'f8,f8'", "run = 0", "count 2 = 0");
    }

    private static void most() {
        edge("MOST: what is not LAWFUL as it comes is left out",
            "people 'f0,f8,f0'", "plan '0>2,2>1'", "most 0 = 5", "when 0 1 = 0", "when 0 2 = 2");
        edge("MOST: a WEEK ends behind what is left out all the same", "people 'f0,f8'", "plan '0>1,0>1;'", "most 0 = 6", "when 0 1 = 2",
            "plan '0>1,0>1'", "most 0 = 4");
        edge("MOST: from now on", "people 'f0,f8'", "ask 0 1", "most 0 = 4", "week", "most 0 = 6", "ask 0 1", "plan '1>0;'", "most 0 = 6");
        edge("MOST: he asks each other one once", "people 'f0,f16,f0'", "plan '1>2;1>2;1>2;'", "most 0 = 8", "when 0 1 = 0");
        edge("MOST: 0 ahead of all", "people 'f0,f8,f0'", "plan '2>1'", "most 0 = 5", "when 0 1 = 0", "when 0 2 = 1");
        edge("MOST: i behind the i-th ASKING, at most behind the eighth", "people 'f0,f0,f8'", "knows 0 2 false",
            "plan '0>1,0>1,0>1,0>1,0>1,0>1,0>1,1>2'", "most 0 = 2", "when 0 1 = 8", "when 0 2 = 0");
        edge("MOST: and behind the end of a WEEK there", "people 'f0,f8'", "plan '0>1;'", "most 0 = 6", "when 0 1 = 1");
        edge("MOST: what of his is not LAWFUL is left out, too", "people 'f5,f8,f0'", "knows 0 1 false", "plan '1>2'", "most 0 = 5",
            "when 0 1 = 0", "when 0 2 = 0");
        edge("MOST: no PLAN, only ahead of all", "people 'f0,f8,t8,w12,c9'", "most 0 = 13", "when 0 4 = 0", "when 0 1 = 0");
        edge("MOST: one alone", "people 'f7'", "most 0 = 7");
        edge("MOST: each other one at a time of his own, by five", "people 'f0,f0,f0,f16,f0'", "knows 4 3 false", "plan '0>3,1>0,2>1'", "most 4 = 6",
            "when 4 0 = 1", "when 4 1 = 2", "when 4 2 = 3", "when 4 3 = 0", "knows 2 3 false", "plan '0>3,1>0,4>1'", "most 2 = 6", "when 2 0 = 1", "when 2 1 = 2",
            "when 2 3 = 0", "when 2 4 = 3");
        edge("MOST: behind one who takes from him", "people 'f1,f8,f8,f8'", "knows 0 1 false", "plan '1>0,1>0,1>0;'", "most 0 = 8", "when 0 1 = 0", "when 0 2 = 1",
            "when 0 3 = 1");
        edge("MOST: behind one who takes from whom he asks", "people 'w7,t9,t6'", "plan '2>1,1>0'", "most 0 = 12", "when 0 1 = 1", "when 0 2 = 2");
        edge("MOST: behind the end of a WEEK that has nothing else to do with it", "people 'f0,f8,f0,f1'", "ask 0 1", "plan '2>3;2>3,2>3'", "most 0 = 7", "when 0 1 = 1",
            "when 0 2 = 0", "when 0 3 = 0");
        edge("MOST: of THE PLAN alone, not of one that was", "people 'f0,f8,f0'", "knows 0 1 false", "plan '2>1,2>1;'", "most 0 = 2", "when 0 2 = 1",
            "plan '2>0'", "most 0 = 0", "when 0 2 = 0");
        edge("MOST: eight ASKINGS, each of which ends a WEEK", "people 'f0,f9999,f9999,f9999,f9999'", "plan '1>0;1>0;1>0;1>0;1>0;1>0;1>0;1>0;'", "most 0 = 20000",
            "when 0 1 = 8", "when 0 2 = 8", "when 0 3 = 8", "when 0 4 = 8");
        edge("MOST changes nothing", "people 'f0,f8'", "plan '0>1;'", "most 0 = 6", "told 0 1 = 0", "count 2 = 0", "count 3 = 1");
        edge("MOST: the greatest sums", "people 'f9999,w9999,w9999,w9999,w9999'", "most 0 = 49959");
    }

    private static void when() {
        edge("WHEN: of the ways by which he has so many the first, as a row of times for all others by numbers",
            "people 'f9,f4,f3'", "plan '1>0;1>2'", "most 0 = 11", "when 0 1 = 1", "when 0 2 = 1");
        edge("WHEN: of like times the first", "people 'f0,w5,w9'", "plan '1>2;2>1'", "when 0 1 = 0", "when 0 2 = 0");
        edge("WHEN: never (9) is behind every other time, and to ask behind all costs nothing",
            "people 'f4,f4'", "plan '1>0;1>0;'", "when 0 1 = 2", "knows 0 1 false", "when 0 1 = 0", "set 1 0", "when 0 1 = 0");
    }

    private static void turns() {
        edge("TURNS: each asks one or passes, one behind the other", "people 'f8,f8'", "turns 0 = 1", "turns 1 = 0", "ends 0 = 6", "ends 1 = 10");
        edge("TURNS: an ASKING that is LAWFUL", "people 'f0,f8,f0'", "knows 0 1 false", "turns 0 = 9", "turns 2 = 1",
            "knows 2 1 false", "turns 2 = 9", "ends 1 = 8");
        edge("TURNS: of like ones he passes", "people 'w9,c1,t2'", "turns 0 = 9", "turns 1 = 9", "turns 2 = 9");
        edge("TURNS: else asks the one of the least number", "people 'f0,f8,f8'", "knows 1 0 false", "knows 1 2 false", "knows 2 0 false",
            "knows 2 1 false", "turns 0 = 1", "knows 0 1 false", "turns 0 = 2");
        edge("TURNS: so that he himself has most PENCE behind all turns", "people 'f1,c0,w20'", "knows 2 1 false", "knows 1 2 false",
            "turns 0 = 2", "turns 1 = 0", "turns 2 = 0", "ends 0 = 3", "ends 2 = 12");
        edge("TURNS: from now on, in this WEEK: who has asked already is told", "people 'f0,f8'", "ask 0 1", "turns 0 = 9", "turns 1 = 0",
            "ends 0 = 2", "week", "turns 0 = 1", "turns 1 = 0");
        edge("TURNS: of all five", "people 'f100,c37,t60,w25,f1'", "turns 0 = 9", "turns 1 = 2", "turns 2 = 0", "turns 3 = 4", "turns 4 = 2", "ends 0 = 50",
            "ends 1 = 57", "ends 2 = 60", "ends 3 = 26", "ends 4 = 30");
        edge("TURNS: one alone passes", "people 'f7'", "turns 0 = 9", "ends 0 = 7");
        edge("TURNS change nothing", "people 'f8,f8'", "turns 0 = 1", "ends 1 = 10", "told 0 1 = 8", "told 0 4 = 0");
    }

    private static void orders() {
        edge("ORDERS: in any order", "people 'f8,f0,f0'", "plan '2>1,1>0'", "order -1 = 2", "order 0 = 1", "order 1 = 0");
        edge("ORDERS: theirs, too", "people 'f8,f0,f0'", "plan '1>0,2>1'", "order -1 = 2", "order 0 = 0", "order 1 = 1");
        edge("ORDERS: from now on", "people 'f0,f8'", "plan '0>1'", "order -1 = 0", "ask 0 1", "set 0 0", "set 1 8", "order -1 = 8",
            "week", "order -1 = 0");
        edge("ORDERS: without its ends of WEEKS", "people 'f0,f12'", "plan '0>1;0>1;1>0'", "order -1 = 0", "order 0 = 2", "order 1 = 0",
            "order 2 = 1");
        edge("ORDERS: what is not LAWFUL as it comes is left out", "people 'f8,f0,f0'", "knows 2 0 false", "plan '2>0,1>0'", "order -1 = 4",
            "order 0 = 0", "order 1 = 1");
        edge("ORDERS: of like ones the first as a row of places", "people 'f8,f8'", "plan '0>1,0>1,0>1,0>1,0>1,0>1'", "order -1 = 8",
            "order 0 = 0", "order 1 = 1", "order 2 = 2", "order 3 = 3", "order 4 = 4", "order 5 = 5");
        edge("ORDERS: the most PENCE of one less the fewest of one", "people 'f3,f9,f0,f5'", "order -1 = 9", "people 'f7'", "order -1 = 0",
            "people 'f7,f2'", "people 'f7'", "order -1 = 0");
        edge("ORDERS: one alone", "person 0 7", "order -1 = 0", "order 0 = NONE");
    }

    private static void so() {
        edge("SO: all of a set have so many PENCE", "people 'f8,f0,f0'", "plan '2>1,1>0'", "so 1 4 = 2", "so 2 2 = 1", "so 6 2 = 1", "so 5 4 = 0",
            "so 7 2 = 0");
        edge("SO: how many orders there are, up to six ASKINGS", "people 'f8,f8'", "plan '0>1,0>1,0>1,0>1,0>1,0>1'", "so 1 12 = 720", "so 2 4 = 720",
            "so 3 8 = 0");
        edge("SO: orders without ends of WEEKS, like ASKINGS at two places", "people 'f8,f8'", "plan '0>1;0>1;'", "so 1 12 = 2", "so 1 14 = 0");
        edge("SO: without ASKINGS there is one order", "people 'f5,c5'", "so 3 5 = 1", "so 3 4 = 0");
        edge("SO: from now on", "people 'f0,f8'", "plan '0>1'", "ask 0 1", "so 1 4 = 1", "so 1 6 = 0", "week", "so 1 4 = 0", "so 1 6 = 1");
    }

    private static void exact() {
        edge("EXACT: ASKINGS where the first KNOWS the second", "people 'f8,f8'", "plan '0>1,1>0'", "knows 0 1 false", "exact 0 1 0 = 4",
            "knows 1 0 false", "exact 0 3 0 = 8");
        edge("EXACT: each giving just half, whatever the KIND", "people 'w9,t9,c1'", "plan '2>0,2>1'", "exact 0 1 0 = 9", "exact 0 1 1 = 2",
            "exact 1 1 0 = 9", "exact 1 1 1 = 2", "exact 2 1 0 = 10", "exact 2 1 1 = 1");
        edge("EXACT: whatever the WEEKS", "people 'f8,f8'", "ask 0 1", "plan '0>1,0>1;'", "exact 1 1 0 = 1", "exact 1 2 0 = 1", "exact 1 2 1 = 4");
        edge("EXACT: as a fraction in lowest terms", "people 'f0,f12'", "plan '0>1,0>1,0>1'", "exact 1 1 0 = 3", "exact 1 1 1 = 2",
            "exact 0 1 0 = 21", "exact 0 1 1 = 2");
        edge("EXACT: below is above 0", "people 'f0,f0'", "plan '0>1'", "exact 0 3 0 = 0", "exact 0 3 1 = 1", "exact 1 1 0 = 0", "exact 1 1 1 = 1");
        edge("EXACT: 24 halves", "people 'f0,f9999'", "plan '0>1,0>1,0>1,0>1,0>1,0>1,0>1,0>1'", "exact 1 3 0 = 9999", "exact 1 3 1 = 16777216",
            "exact 0 3 0 = 167755372785", "exact 0 3 1 = 16777216");
        edge("EXACT: of all five", "people 'f1,f2,f3,f4,f16'", "plan '0>1,1>2,2>3,3>4,4>0'", "exact 0 1 0 = 1", "exact 0 1 1 = 1", "exact 1 1 0 = 5", "exact 1 1 1 = 2",
            "exact 2 1 0 = 7", "exact 2 1 1 = 2", "exact 3 1 0 = 10", "exact 4 1 0 = 9");
        edge("EXACT: no PLAN", "people 'f6'", "exact 0 3 0 = 6", "exact 0 3 1 = 1");
        edge("EXACT changes nothing", "people 'f8,f8'", "plan '0>1'", "exact 0 1 0 = 12", "exact 0 1 0 = 12", "told 0 1 = 8", "count 2 = 0");
    }

    /** An object of people with a sheet 0 of ints: what they have, then what they have behind it. */
    private static String[] saturdays(String people, int... pence) {
        String[] calls = new String[pence.length + 2];
        calls[0] = "people '" + people + "'";
        calls[1] = "sheet 0 1 " + pence.length;
        for (int i = 0; i < pence.length; i++) calls[i + 2] = "item 0 1 " + i + " " + pence[i];
        return calls;
    }

    private static void saturdayEdge(String sentence, String[] saturdays, String... calls) {
        edge(sentence, Edges.join(saturdays, calls));
    }

    private static void whoAsked() {
        saturdayEdge("WHO ASKED: rows of k ASKINGS (1 .. 3)", saturdays("f0,f0,f0", 0, 8, 0, 1, 4, 3), "who 0 1 0 1 -1 = NONE",
            "who 0 1 0 2 -1 = NONE", "who 0 1 0 3 -1 = 1", "who 0 1 0 3 0 = 21", "who 0 1 0 3 1 = 2", "who 0 1 0 3 2 = 20");
        saturdayEdge("WHO ASKED: each LAWFUL as it comes: the second has PENCE", saturdays("w0,w0", 0, 9, 0, 9), "who 0 1 0 1 -1 = 1",
            "who 0 1 0 1 0 = 1", "who 0 1 0 2 -1 = NONE");
        saturdayEdge("WHO ASKED: each LAWFUL as it comes: not asked twice", saturdays("f0,f0", 0, 8, 6, 2), "who 0 1 0 2 -1 = NONE");
        saturdayEdge("WHO ASKED: in a WEEK that begins then", saturdays("f8,f8", 8, 8, 12, 4), "ask 0 1", "who 0 1 0 1 0 = 1", "told 0 4 = 2");
        saturdayEdge("WHO ASKED: KINDS as now", saturdays("c0,t0", 9, 9, 12, 6), "who 0 1 0 1 0 = 1", "people 't0,c0'", "who 0 1 0 1 0 = NONE");
        saturdayEdge("WHO ASKED: whom each KNOWS as now", saturdays("f0,f0", 8, 8, 12, 4), "knows 1 0 false", "who 0 1 0 1 -1 = 1",
            "knows 0 1 false", "who 0 1 0 1 -1 = NONE");
        saturdayEdge("WHO ASKED: told PENCE, not those of now", saturdays("f5,f7", 8, 8, 12, 4), "who 0 1 0 1 0 = 1", "told 0 1 = 5",
            "told 1 1 = 7");
        saturdayEdge("WHO ASKED: PENCE of all", saturdays("f0,f0,f0", 8, 8, 8, 12, 4, 8), "who 0 1 0 1 0 = 1", "item 0 1 5 7",
            "who 0 1 0 1 0 = NONE");
        saturdayEdge("WHO ASKED: the first by its first ASKING, the least, and so on", saturdays("w1,w1,w1", 1, 1, 1, 1, 1, 1),
            "who 0 1 0 1 -1 = 6", "who 0 1 0 1 0 = 1", "who 0 1 0 2 -1 = 30", "who 0 1 0 2 1 = 2", "who 0 1 0 3 -1 = 120",
            "who 0 1 0 3 0 = 1", "who 0 1 0 3 1 = 2", "who 0 1 0 3 2 = 10");
        saturdayEdge("WHO ASKED: as 10 times who asks, and whom", saturdays("f0,f0,f0,f0,f0", 0, 0, 0, 4, 0, 0, 0, 0, 2, 2),
            "who 0 1 0 1 0 = 43", "item 0 1 3 0", "item 0 1 4 4", "who 0 1 0 1 0 = 34");
        saturdayEdge("WHO ASKED: all rows of three among five", saturdays("w1,w1,w1,w1,w1", 1, 1, 1, 1, 1, 1, 1, 1, 1, 1),
            "who 0 1 0 3 -1 = 6840", "who 0 1 0 2 -1 = 380", "who 0 1 0 1 -1 = 20");
    }

    private static void shun() {
        edge("SHUN: that other one by whom he has most PENCE behind it", "people 't9,f0,f0'", "plan '1>0;2>0;2>0'",
            "shun 0 = 2", "plan '2>0;1>0;1>0'", "shun 0 = 1");
        edge("SHUN: of like ones the least", "people 'f16,f0,f0'", "plan '2>0;1>0'", "shun 0 = 1");
        edge("SHUN: nobody, if by none it is more than with all", "people 'f4,w10'", "plan '1>0,0>1'", "shun 0 = 9", "plan '0>1'", "shun 0 = 9",
            "people 'w9,f1'", "plan '1>0'", "shun 0 = 9");
        edge("SHUN: what is not LAWFUL as it comes is left out", "people 'f16,f0,f0'", "plan '0>1,2>0'", "shun 0 = 2");
        edge("SHUN: a WEEK ends behind what is left out all the same", "people 't9,f0,f100'", "plan '0>2,1>0;0>2'", "shun 0 = 1");
        edge("SHUN: without ASKINGS of him, not those by him, nor of others", "people 'f8,f8,f8'", "plan '0>1,1>2'", "shun 0 = 9", "shun 1 = 0",
            "shun 2 = 1");
        edge("SHUN: eight ASKINGS among five", "people 'f9999,f0,f0,f0,f0'", "plan '1>0;2>0;3>0;4>0;1>0;2>0;3>0;4>0;'", "shun 0 = 1", "shun 4 = 9",
            "plan '1>0;2>0;3>0;4>0;1>0;2>0;3>0;4>0;' = 8", "knows 1 0 false", "shun 0 = 2");
        edge("SHUN: no PLAN, one alone", "people 'f8,f8'", "shun 0 = 9", "people 'f8'", "shun 0 = 9");
    }

    private static void peopleTexts() {
        edge("PEOPLE are a TEXT: 1 to 5", "people = -20", "people 'f1' = 1", "people 'f1,c1,t1,w1,f1' = 5", "people 'f1,f1,f1,f1,f1,f1' = -34",
            "people 'f1,f1,f1,f1,f1,' = -34", "people 'f1,f1,f1,f1,f1 ,' = -35", "count 0 = 5");
        edge("PEOPLE: with , between", "people 'f1;c1' = -22", "people 'f1c1' = -22", "people 'f1 c1' = -23", "people 'f1,,c1' = -23",
            "people ',f1' = -20", "people 'f1,' = -23", "people 'f1,c1' = 2");
        edge("PEOPLE: f c t w (KINDS in this order)", "people 'f1,c1,t1,w1'", "told 0 0 = 0", "told 1 0 = 1", "told 2 0 = 2", "told 3 0 = 3",
            "people 'F1' = -20", "people 'x1' = -20", "people '1' = -20", "people 'ff1' = -21");
        edge("PEOPLE: a number (PENCE)", "people 'f' = -21", "people 'f,' = -21", "people 'f-1' = -21", "people 'f+1' = -21", "people 'f1.5' = -22",
            "people 'f0,f9999' = 2", "told 1 1 = 9999", "told 0 1 = 0");
        edge("PEOPLE: zeros ahead, too", "people 'f00,c00007,t0000000000000000000000000000009999' = 3", "told 0 1 = 0", "told 1 1 = 7", "told 2 1 = 9999",
            "people 'w" + "0".repeat(78) + "5' = 1", "told 0 1 = 5");
        edge("PEOPLE: in place of those told", "people 'f1,f1,f1'", "people 'c4' = 1", "count 0 = 1", "told 0 0 = 1", "told 0 1 = 4", "told 1 0 = BAD");
        edge("PEOPLE: all KNOW all", "people 'f1,f1'", "knows 0 1 false", "shun 0 = 9", "people 'f1,f1,f1'", "told 0 3 = 6", "told 1 3 = 5", "person 0 1",
            "told 0 3 = 14", "told 3 3 = 7");
        edge("PEOPLE: nobody has asked", "people 'f8,f8'", "ask 0 1", "shun 0 = 9", "people 'f8,f8'", "count 2 = 0", "told 0 4 = 0", "week = 0", "ask 0 1 = 4");
        edge("PEOPLE: no PLAN", "people 'f8,f8'", "plan '0>1;'", "people 'f8,f8'", "count 3 = 0", "count 4 = 0", "run = 0");
        edge("FAULTS of PEOPLE: the place of the first byte that can't stand there", "people 'f1,cx,' = -24", "people 'f1,c1,t1?' = -28",
            "people '~' = -20", "people 'f1,c1>' = -25");
        edge("FAULTS of PEOPLE: blanks do not count", "people '  f  1  ,  c  2  ' = 2", "people '  x' = -22", "people ' f x' = -23",
            "people 'f1 ;' = -23", "people 'f1, ;' = -24");
        edge("FAULTS of PEOPLE: but end a number", "people 'f1 1' = -23", "people 'f9999 9' = -26", "people 'f0 0' = -23");
        edge("FAULTS of PEOPLE: the end: how many bytes there are", "people = -20", "people '   ' = -23", "people 'f' = -21", "people 'f  ' = -23",
            "people 'f1,' = -23", "people 'f1, ' = -24", "people 'f" + " ".repeat(79) + "' = -100", "people '" + " ".repeat(80) + "' = -100");
        edge("FAULTS of PEOPLE: of a number that may not be its first byte", "people 'f10000' = -21", "people 'f 010000' = -22",
            "people 'f1,c99999,x' = -24", "people 'f10000x' = -21", "people 'f4294967296' = -21", "people 'f4294967297,c1' = -21",
            "people 'f18446744073709551617' = -21", "people 'f" + "9".repeat(79) + "' = -21", "people 'f9999' = 1");
        edge("FAULTS of PEOPLE: the first of several", "people 'f1,x1,c10000' = -23", "people 'f10000,x' = -21");
    }

    private static void planTexts() {
        String eight = "0>1,1>0,0>1,1>0,0>1,1>0,0>1,1>0";
        edge("A PLAN is a TEXT: 1 to 8", "people 'f1,f1'", "plan = -20", "plan '0>1' = 1", "plan '" + eight + "' = 8", "plan '" + eight + ",0>1' = -51",
            "plan '" + eight + ",' = -51", "count 3 = 8");
        edge("A PLAN: behind the eighth a ; may stand, but no ninth", "people 'f1,f1'", "plan '" + eight + ";' = 8", "count 4 = 1",
            "plan '" + eight + ";0>1' = -52", "plan '" + eight + ";;' = -52", "plan '" + eight + " ; 0>1' = -54");
        edge("A PLAN: with , or ; between", "people 'f1,f1'", "plan '0>1,1>0;0>1' = 3", "plan '0>1 1>0' = -24", "plan '0>11>0' = -23", "plan '0>1.1>0' = -23",
            "plan '0>1,,1>0' = -24", "plan '0>1;;1>0' = -24", "plan '0>1;,1>0' = -24", "plan '0>1,;1>0' = -24", "plan ',0>1' = -20", "plan ';0>1' = -20");
        edge("A PLAN: by ; a WEEK ends there", "people 'f8,f8'", "plan '0>1;0>1,1>0'", "count 4 = 1", "run = 3", "count 2 = 2", "plan '0>1,0>1;1>0'", "week",
            "run = 1");
        edge("A PLAN: perhaps ; at the end", "people 'f8,f8'", "plan '0>1;' = 1", "count 4 = 1", "plan '0>1 ; ' = 1", "plan '0>1,' = -24", "plan '0>1;;' = -24",
            "plan ';' = -20");
        edge("A PLAN: a digit, > and another digit", "people 'f1,f1,f1'", "plan '0' = -21", "plan '0>' = -22", "plan '>0' = -20", "plan '0>0' = -22",
            "plan '2>2' = -22", "plan '01' = -21", "plan '0-1' = -21", "plan '0>>1' = -22", "plan '00>1' = -21", "plan '0>01' = -22", "plan '0>x' = -22",
            "plan '0>1' = 1");
        edge("A PLAN: of PEOPLE there are", "plan '0>1' = -20", "people 'f1'", "plan '0>1' = -22", "plan '1>0' = -20", "plan '0>0' = -22",
            "people 'f1,f1,f1,f1,f1'", "plan '4>3,3>4' = 2", "plan '5>0' = -20", "plan '0>5' = -22", "plan '9>0' = -20", "plan '0>9' = -22",
            "plan '/>0' = -20", "plan '0>/' = -22", "plan ':>0' = -20");
        edge("A PLAN: of one who came later", "people 'f1,f1'", "plan '2>0' = -20", "person 0 1", "plan '2>0' = 1");
        edge("A PLAN: in place of THE PLAN", "people 'f8,f8'", "plan '0>1;1>0;'", "plan '1>0' = 1", "count 3 = 1", "count 4 = 0", "run = 1", "told 1 1 = 12");
        edge("FAULTS of A PLAN: blanks do not count", "people 'f1,f1'", "plan '  0  >  1  ;  1  >  0  ' = 2", "plan '  x' = -22", "plan '0 x' = -22",
            "plan '0 > x' = -24", "plan '0>1 x' = -24", "plan '0>1; x' = -25");
        edge("FAULTS of A PLAN: the end: how many bytes there are", "people 'f1,f1'", "plan = -20", "plan '  ' = -22", "plan '0 ' = -22", "plan '0> ' = -23",
            "plan '0>1, ' = -25", "plan '0" + " ".repeat(79) + "' = -100", "plan '0>1," + " ".repeat(76) + "' = -100",
            "plan '0>1;" + " ".repeat(76) + "' = 1");
    }

    private static void sheets() {
        edge("sheets 0 .. 3: nothing at first", "drop 0 = NULL", "drop 1 = NULL", "drop 2 = NULL", "drop 3 = NULL", "drop 4 = BAD", "drop -1 = BAD");
        edge("a row of a LANE: 0 bytes", "sheet 0 0 3", "item 0 0 0 127", "item 0 0 1 300", "item 0 1 0 1 = CAST", "item 0 2 0 1 = CAST",
            "holds 0 0 0 127 = 1", "holds 0 0 1 44 = 1");
        edge("a row of a LANE: 1 ints", "sheet 0 1 2", "item 0 1 0 99999", "item 0 1 1 4294967297", "item 0 0 0 1 = CAST", "item 0 2 0 1 = CAST",
            "holds 0 1 0 99999 = 1", "holds 0 1 1 1 = 1");
        edge("a row of a LANE: 2 longs", "sheet 0 2 2", "item 0 2 0 99999", "item 0 2 1 4294967297", "item 0 0 0 1 = CAST", "item 0 1 0 1 = CAST",
            "people 'f1'", "who 0 2 0 1 -1 = NOT", "holds 0 2 0 99999 = 1", "holds 0 2 1 1 = 0");
        edge("of 0 to 24 items", "sheet 0 0 0 = 0", "drop 0 = 0", "sheet 0 2 24 = 24", "item 0 2 23 1 = 1", "item 0 2 24 1 = INDEX", "sheet 0 2 25 = BAD",
            "drop 0 = 24");
    }

    private static void lastCalls() {
        java.util.List<String> calls = new java.util.ArrayList<>();
        for (int i = 0; i < 250; i++) calls.add("sheet " + i % 4 + " 2 24");
        for (int i = 0; i < 250; i++) calls.add("image");
        calls.add("type 0x66392c66 4");
        calls.add("type 0x38 1");
        calls.add("people = 2");
        for (int i = calls.size(); i < 511; i++) calls.add("week");
        calls.add("most 0 = 13");
        edge("An object is used for at most 512 calls", calls.toArray(new String[0]));
    }
}
