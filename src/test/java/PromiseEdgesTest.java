/** The bounds of each call, promise by promise. */
public final class PromiseEdgesTest {
    private static final Edges edges = new Edges();
    private static final String SIX = "0>1,1>0,0>1,1>0,0>1,1>0";

    private static void edge(String sentence, String... calls) {
        edges.edge(sentence, calls);
    }

    /** A run, and behind it calls that are all due to be answered alike. */
    private static void edgeAll(String sentence, String[] ahead, String want, String... calls) {
        edge(sentence, Edges.join(ahead, Edges.all(want, calls)));
    }

    public static void main(String[] args) {
        peopleAndAskings();
        tapes();
        counts();
        plans();
        turns();
        orders();
        exact();
        shun();
        images();
        who();
        sheets();
        items();
        films();
        copies();
        edges.end("edges of the promises");
    }

    private static void peopleAndAskings() {
        edge("1 Nobody", "count 0 = 0", "count 1 = 0", "count 2 = 0", "count 3 = 0", "count 4 = 0", "told 0 0 = BAD", "set 0 0 = BAD", "ask 0 1 = BAD",
            "knows 0 1 true = BAD", "most 0 = BAD", "when 0 1 = BAD", "turns 0 = BAD", "ends 0 = BAD", "shun 0 = BAD", "exact 0 1 0 = BAD", "so 1 0 = BAD",
            "week = 0", "run = 0", "order -1 = NONE", "restore = NONE", "type 32 1 = 1");
        edge("2 person: the number", "person 0 1 = 0", "person 0 1 = 1", "people 'f1,f1,f1'", "person 3 9999 = 3", "told 3 0 = 3", "told 3 1 = 9999",
            "told 3 4 = 0");
        edgeAll("2 person BAD", Edges.run("person 3 9999 = 0", "person 0 0 = 1"), "BAD", "person -1 0", "person 4 0", "person MIN 0", "person MAX 0",
            "person 0 -1", "person 0 10000", "person 0 MIN", "person 0 MAX");
        edge("2 person FULL: 5", "people 'f1,f1,f1,f1'", "person 0 0 = 4", "person 0 0 = FULL", "count 0 = 5", "people 'f1'", "person 0 0 = 1");
        edge("3 set: what they were", "people 'f1,f2'", "set 1 0 = 2", "set 1 9999 = 0", "set 1 5 = 9999", "told 1 1 = 5", "told 0 1 = 1");
        edgeAll("3 set BAD", Edges.run("people 'f1,f2'"), "BAD", "set -1 0", "set 2 0", "set MIN 0", "set MAX 0", "set 0 -1", "set 0 10000", "set 0 MIN",
            "set 0 MAX", "set 4 0");
        edge("4 told: KIND, PENCE, what he GIVES now, whom he KNOWS, whom he has asked", "people 't10,f4,f4'", "ask 0 2", "knows 0 2 false", "told 0 0 = 2",
            "told 0 1 = 12", "told 0 2 = 4", "told 0 3 = 2", "told 0 4 = 4");
        edgeAll("4 told BAD", Edges.run("people 'f1,f2'"), "BAD", "told -1 0", "told 2 0", "told MIN 0", "told MAX 0", "told 0 -1", "told 0 5", "told 0 MIN",
            "told 0 MAX", "told 2 4");
        edge("5 knows: whether he did", "people 'f1,f2'", "knows 0 1 true = 1", "knows 0 1 false = 1", "knows 0 1 false = 0", "knows 0 1 true = 0",
            "knows 0 1 true = 1", "knows 1 0 true = 1");
        edgeAll("5 knows BAD", Edges.run("people 'f1,f2'"), "BAD", "knows -1 0 true", "knows 0 -1 true", "knows 2 0 true", "knows 0 2 true", "knows MIN 0 true",
            "knows 0 MAX true");
        edgeAll("5 knows BAD: also one alike", Edges.run("people 'f1,f2'"), "BAD", "knows 0 0 true", "knows 1 1 false");
        edge("6 ask: what is given", "people 'f5,c5,t5,w15'", "ask 1 0 = 3", "ask 0 1 = 4", "ask 0 2 = 1", "ask 0 3 = 6");
        edgeAll("6 ask BAD", Edges.run("people 'f1,f2'"), "BAD", "ask -1 0", "ask 0 -1", "ask 2 0", "ask 0 2", "ask MIN 0", "ask 0 MIN", "ask MAX 0", "ask 0 MAX");
        edgeAll("6 ask BAD: also one alike", Edges.run("people 'f1,f2'"), "BAD", "ask 0 0", "ask 1 1");
        edge("6 ask NOT: it is not LAWFUL", "people 'f8,f0,f8'", "ask 0 1 = NOT", "ask 0 2 = 4", "ask 0 2 = NOT", "knows 2 0 false", "ask 2 0 = NOT",
            "count 2 = 1", "count 1 = 16");
        edge("7 week: how many ASKINGS there were in the last one", "week = 0", "people 'f99,f99,f99,f99,f99'", "ask 0 1", "ask 1 0", "ask 4 3", "ask 0 1 = NOT",
            "week = 3", "week = 0", "plan '0>1,1>0;2>3'", "run", "week = 1");
        edge("7 week: all 20 ASKINGS of five", allAskings());
    }

    private static String[] allAskings() {
        java.util.List<String> calls = new java.util.ArrayList<>();
        calls.add("people 'w9,w9,w9,w9,w9'");
        for (int a = 0; a < 5; a++) {
            for (int b = 0; b < 5; b++) {
                if (a != b) calls.add("ask " + a + " " + b + " = 0");
            }
        }
        calls.add("count 2 = 20");
        calls.add("told 4 4 = 15");
        calls.add("ask 4 3 = NOT");
        calls.add("week = 20");
        calls.add("ask 4 3 = 0");
        return calls.toArray(new String[0]);
    }

    private static void tapes() {
        edge("8 type: the n lowest bytes, of these the highest first", "type 0x6631 2 = 2", "type 0x2c2c2c2c2c2c2c2c 1 = 3", "type 0x7a7a7a7a7a7a6332 2 = 5",
            "people = 2", "told 0 1 = 1", "told 1 0 = 1", "told 1 1 = 2", "type 0x66312c63322c7433 8 = 8", "people = 3", "told 2 1 = 3");
        edge("8 type: bytes above the n lowest do not count", "type 0xff66 1 = 1", "type 0xffffffffffffff30 1 = 2", "type 0x0000000000002020 2 = 4", "people = 1");
        edge("8 type: bytes 32 .. 126", "type 32 1 = 1", "type 126 1 = 2", "type 0x7e7e7e7e7e7e7e7e 8 = 10", "type 0x2020202020202020 8 = 18");
        edgeAll("8 type BAD: n", Edges.run("type 32 1 = 1", "type 0x2020202020202020 8 = 9"), "BAD", "type 0x2020202020202020 0", "type 0x2020202020202020 9",
            "type 0x2020202020202020 -1", "type 0x2020202020202020 MIN", "type 0x2020202020202020 MAX", "type 0x2020202020202020 64");
        edgeAll("8 type BAD: a byte not 32 .. 126", Edges.run(), "BAD", "type 31 1", "type 127 1", "type 0 1", "type 128 1", "type 255 1", "type -1 8", "type 0x201f 2",
            "type 0x1f20 2", "type 0x7f2020 3", "type 0x1f20202020202020 8", "type 0x7f20202020202020 8", "type 0xa020202020202020 8", "type 0x202020202020201f 8",
            "type LONGMIN 8", "type LONGMAX 8");
        edge("8 type FULL: 80", "type '" + " ".repeat(72) + "' = 72", "type 0x2020202020202020 8 = 80", "type 32 1 = FULL", "type 0x2020202020202020 8 = FULL",
            "people = -100", "type 32 1 = 1");
        edge("8 type FULL: no part of it is typed", "type 'f1" + " ".repeat(76) + "' = 78", "type 0x202020 3 = FULL", "type 0x787878 3 = FULL", "type 0x2020 2 = 80",
            "people = 1");
        edge("9 people: THE TAPE is empty then, whatever is answered", "type 'f1' = 2", "people = 1", "type 32 1 = 1", "people = -21", "type 32 1 = 1",
            "type 'f1,x'", "people = -24", "people = -20", "count 0 = 1");
        edge("9 people: how many", "people 'f1' = 1", "people 'f1,f1,f1,f1,f1' = 5", "count 0 = 5");
        edge("9 people, a FAULT: all else stays", "people 'f8,f8,f8'", "plan '0>1;1>0'", "ask 0 1", "knows 0 2 false", "people 'c1,c1,x' = -26", "count 0 = 3",
            "told 0 0 = 0", "told 0 1 = 12", "told 0 3 = 2", "told 0 4 = 2", "count 3 = 2", "count 4 = 1");
        edge("10 plan: THE TAPE is empty then, whatever is answered", "people 'f1,f1'", "type '0>1'", "plan = 1", "type 32 1 = 1", "plan = -21", "type 32 1 = 1",
            "plan '0>1,x' = -25", "plan = -20", "count 3 = 1");
        edge("10 plan: how many ASKINGS", "people 'f1,f1'", "plan '0>1' = 1", "plan '" + SIX + "' = 6", "plan '" + SIX + ",0>1,1>0' = 8", "count 3 = 8");
        edge("10 plan, a FAULT: THE PLAN stays", "people 'f8,f8'", "plan '0>1;1>0'", "plan '1>0,0>1,0>x' = -30", "count 3 = 2", "count 4 = 1", "run = 2",
            "told 0 1 = 6");
        edge("10 plan: who has asked, what all have, stay", "people 'f8,f8'", "ask 0 1", "knows 1 0 false", "plan '1>0'", "told 0 4 = 2", "told 0 1 = 12",
            "told 1 3 = 0");
    }

    private static void counts() {
        edge("11 count: PEOPLE, PENCE of all, ASKINGS in this WEEK, ASKINGS of THE PLAN, how many of these end a WEEK", "people 'f9999,w9999,f9999,f9999,f9999'",
            "plan '0>1;1>0,0>1;'", "ask 0 1", "ask 0 2", "count 0 = 5", "count 1 = 49995", "count 2 = 2", "count 3 = 3", "count 4 = 2");
        edgeAll("11 count BAD", Edges.run("people 'f1'"), "BAD", "count -1", "count 5", "count MIN", "count MAX");
    }

    private static void plans() {
        edge("12 run: how many ASKINGS are done", "people 'f99,f99'", "plan '0>1,1>0;0>1,1>0;0>1,1>0;0>1,1>0' = 8", "run = 8", "week = 2", "plan '0>1,0>1' = 2",
            "run = 1", "run = 0");
        edge("12 run: THE PLAN stays, and may be run again", "people 'f99,f99'", "plan '0>1;'", "run = 1", "run = 1", "told 1 1 = 24", "count 3 = 1");
        edgeAll("13 most BAD", Edges.run("people 'f1,f2'", "plan '0>1'"), "BAD", "most -1", "most 2", "most MIN", "most MAX", "most 9");
        edgeAll("14 when BAD", Edges.run("people 'f1,f2'", "plan '0>1'"), "BAD", "when -1 0", "when 0 -1", "when 2 0", "when 0 2", "when MIN 0", "when 0 MIN", "when MAX 0",
            "when 0 MAX", "when 9 0", "when 0 9");
        edgeAll("14 when BAD: also one alike", Edges.run("people 'f1,f2'", "plan '0>1'"), "BAD", "when 0 0", "when 1 1");
    }

    private static void turns() {
        edge("15 turns: whom one asks (9: he passes)", "people 'f8,f8,w9'", "knows 0 1 false", "turns 0 = 9", "turns 1 = 9", "turns 2 = 0");
        edgeAll("15 turns BAD", Edges.run("people 'f1,f2'"), "BAD", "turns -1", "turns 2", "turns MIN", "turns MAX", "turns 9");
        edge("16 ends: PENCE of one at the end", "people 'f8,f8,w9'", "knows 0 1 false", "ends 0 = 4", "ends 1 = 8", "ends 2 = 13");
        edgeAll("16 ends BAD", Edges.run("people 'f1,f2'"), "BAD", "ends -1", "ends 2", "ends MIN", "ends MAX", "ends 9");
    }

    private static void orders() {
        edgeAll("17 order BAD", Edges.run("people 'f1,f2'", "plan '" + SIX + "'", "order -1", "order 5"), "BAD", "order -2", "order 6", "order MIN", "order MAX");
        edge("17 order FULL: more than 6 ASKINGS", "people 'f8,f8'", "plan '" + SIX + "'", "order -1 = 4", "order 5 = 5", "plan '" + SIX + ",0>1'", "order -1 = FULL",
            "order 0 = FULL", "order 5 = FULL", "plan '" + SIX + ",0>1,1>0'", "order 0 = FULL", "plan '0>1'", "order 0 = 0");
        edgeAll("17 order NONE: there is nobody", Edges.run(), "NONE", "order -1", "order 0", "order 5");
        edge("17 order NONE: no i-th", "people 'f8,f3'", "order -1 = 5", "order 0 = NONE", "plan '0>1,1>0'", "order 1", "order 2 = NONE", "order 5 = NONE");
        edge("18 so: the PENCE that each of these must have (the same for all)", "people 'f5,f5,f6'", "so 3 5 = 1", "so 7 5 = 0", "so 4 6 = 1", "so 4 5 = 0");
        edgeAll("18 so BAD: a set of PEOPLE", Edges.run("people 'f1,f2,f3'", "so 7 0 = 0"), "BAD", "so 8 0", "so 9 1", "so 16 0", "so -1 0", "so MIN 0", "so MAX 0");
        edgeAll("18 so BAD: also the empty set", Edges.run("people 'f1,f2,f3'"), "BAD", "so 0 0", "so 0 1");
        edge("18 so: a set of all five", "people 'f4,f4,f4,f4,f4'", "so 31 4 = 1", "so 32 4 = BAD", "so 33 4 = BAD");
        edgeAll("18 so BAD (pence 0 .. 99999)", Edges.run("people 'f0,f2'", "so 1 0 = 1", "so 1 99999 = 0"), "BAD", "so 1 -1", "so 1 100000", "so 1 MIN", "so 1 MAX");
        edge("18 so: 99999 that one has", ninetyNine());
        edge("18 so FULL: more than 6 ASKINGS", "people 'f8,f8'", "plan '" + SIX + ",0>1'", "so 1 8 = FULL", "plan '" + SIX + "'", "so 1 6 = 360", "so 1 10 = 360");
    }

    /** One whose pence come to 99999, and then one more. */
    private static String[] ninetyNine() {
        java.util.List<String> calls = new java.util.ArrayList<>();
        calls.add("people 'f0,w0'");
        for (int i = 0; i < 10; i++) calls.addAll(java.util.List.of("set 1 9999", "ask 0 1 = 9990", "week"));
        calls.addAll(java.util.List.of("set 1 108", "ask 0 1 = 99", "week", "so 1 99999 = 1", "so 1 99998 = 0", "set 1 10", "ask 0 1 = 1", "so 1 99999 = 0",
            "so 1 100000 = BAD", "told 0 1 = 100000", "sheet 0 1 4", "film 0 1 0", "film 0 1 2", "who 0 1 0 1 -1 = NOT"));
        return calls.toArray(new String[0]);
    }

    private static void exact() {
        edge("19 exact, n times (1 .. 3)", "people 'f0,f8'", "plan '0>1'", "exact 1 1 0 = 4", "exact 1 2 0 = 2", "exact 1 3 0 = 1", "exact 0 3 0 = 7");
        edgeAll("19 exact BAD: one of PEOPLE", Edges.run("people 'f1,f2'"), "BAD", "exact -1 1 0", "exact 2 1 0", "exact MIN 1 0", "exact MAX 1 0");
        edgeAll("19 exact BAD: n", Edges.run("people 'f1,f2'"), "BAD", "exact 0 0 0", "exact 0 4 0", "exact 0 -1 0", "exact 0 MIN 0", "exact 0 MAX 0");
        edgeAll("19 exact BAD: part", Edges.run("people 'f1,f2'"), "BAD", "exact 0 1 -1", "exact 0 1 2", "exact 0 1 MIN", "exact 0 1 MAX");
    }

    private static void shun() {
        edge("20 shun: whom (9: nobody)", "people 'f8,f0,f0,f0,f0'", "plan '4>0'", "shun 0 = 4", "shun 4 = 9", "shun 1 = 9");
        edgeAll("20 shun BAD", Edges.run("people 'f1,f2'"), "BAD", "shun -1", "shun 2", "shun MIN", "shun MAX", "shun 9");
    }

    private static void images() {
        edge("21 image: all is kept", "people 'f8,c8,t9'", "plan '0>1;1>0'", "knows 2 0 false", "ask 0 2", "image = 1", "people 'w5'", "restore = 1", "count 0 = 3",
            "told 1 0 = 1", "told 2 1 = 6", "told 2 3 = 2", "told 0 4 = 4", "count 3 = 2", "count 4 = 1", "ask 0 2 = NOT", "run = 2", "told 0 1 = 7", "told 1 1 = 12");
        edge("21 image: what is kept is not what changes later", "people 'f8,f8'", "plan '0>1'", "image", "set 0 1", "knows 0 1 false", "ask 1 0", "plan '1>0;1>0'",
            "person 0 5", "restore = 1", "count 0 = 2", "told 0 1 = 8", "told 0 3 = 2", "count 2 = 0", "count 3 = 1", "count 4 = 0");
        edge("21 image: of nobody", "image = 1", "people 'f8,f8'", "plan '0>1'", "restore = 1", "count 0 = 0", "count 3 = 0");
        edge("21 image: a later one in its place", "people 'f8'", "image = 1", "set 0 5", "image = 1", "set 0 2", "restore = 1", "told 0 1 = 5");
        edge("21 image: but SHEETS", "people 'f8,f8'", "sheet 0 1 2", "sheet 1 0 3", "image", "item 0 1 0 7", "drop 1", "sheet 2 0 4", "restore = 1", "drop 1 = NULL",
            "drop 2 = 4", "holds 0 1 0 7 = 1");
        edge("21 image: but THE TAPE", "people 'f8'", "type 'c1'", "image", "type ',c2'", "restore = 1", "people = 2", "told 1 1 = 2", "type 'x'", "image", "people = -20",
            "restore = 1", "type 32 1 = 1");
        edge("22 restore: again and again", "people 'f8'", "image", "set 0 1", "restore = 1", "told 0 1 = 8", "set 0 2", "restore = 1", "told 0 1 = 8");
        edge("22 restore: others who come then are known", "people 'f1,f1'", "image", "person 0 5", "knows 2 0 false", "knows 0 2 false", "restore", "person 1 6 = 2",
            "told 2 0 = 1", "told 2 1 = 6", "told 2 3 = 3", "told 0 3 = 6");
        edge("22 restore NONE: there is none", "restore = NONE", "people 'f8'", "restore = NONE", "count 0 = 1", "image", "restore = 1");
        edge("22 restore: an image outlives other PEOPLE", "people 'f8,f7'", "image", "people 'c1'", "people 'x' = -20", "restore = 1", "count 1 = 15");
    }

    private static void who() {
        String[] two = {"people 'f0,f0'", "sheet 0 1 6", "item 0 1 2 8", "item 0 1 3 8", "item 0 1 4 12", "item 0 1 5 4"};
        edge("23 who: how many rows (-1), the i-th ASKING of the first", Edges.join(two, Edges.run("who 0 1 2 1 -1 = 1", "who 0 1 2 1 0 = 1", "who 0 1 2 2 -1 = NONE")));
        edgeAll("23 who BAD: a SHEET", two, "BAD", "who -1 1 2 1 0", "who 4 1 2 1 0", "who MIN 1 2 1 0", "who MAX 1 2 1 0");
        edgeAll("23 who BAD: a LANE", two, "BAD", "who 0 -1 2 1 0", "who 0 3 2 1 0", "who 0 MIN 2 1 0", "who 0 MAX 2 1 0");
        edgeAll("23 who BAD: k", two, "BAD", "who 0 1 2 0 -1", "who 0 1 2 4 0", "who 0 1 2 -1 -1", "who 0 1 2 MIN -1", "who 0 1 2 MAX 0");
        edgeAll("23 who BAD: i (-1, 0 .. k - 1)", two, "BAD", "who 0 1 2 1 -2", "who 0 1 2 1 1", "who 0 1 2 2 2", "who 0 1 2 3 3", "who 0 1 2 1 MIN", "who 0 1 2 1 MAX");
        edgeAll("23 who NULL", two, "NULL", "who 1 1 2 1 0", "who 3 0 99 3 2");
        edgeAll("23 who CAST", two, "CAST", "who 0 0 2 1 0", "who 0 2 2 1 0", "who 0 0 99 1 0");
        edgeAll("23 who INDEX", two, "INDEX", "who 0 1 3 1 0", "who 0 1 -1 1 0", "who 0 1 6 1 0", "who 0 1 7 1 0", "who 0 1 MIN 1 0", "who 0 1 MAX 1 0",
            "who 0 1 2147483644 1 0");
        edge("23 who NOT: one is not 0 .. 99999", Edges.join(two, Edges.run("item 0 1 2 -1", "who 0 1 2 1 0 = NOT", "item 0 1 2 100000", "who 0 1 2 1 0 = NOT",
            "item 0 1 2 99999", "who 0 1 2 1 0 = NONE", "item 0 1 2 0", "who 0 1 2 1 0 = NONE", "item 0 1 5 -1", "who 0 1 2 1 0 = NOT", "item 0 1 5 100000",
            "who 0 1 2 1 0 = NOT", "item 0 1 5 99999", "who 0 1 2 1 0 = NONE", "item 0 1 1 -1", "item 0 1 0 100000", "who 0 1 2 1 0 = NONE")));
        edge("23 who NOT: of longs, too, far beyond", "people 'f0'", "sheet 0 2 2", "item 0 2 1 4294967296", "who 0 2 0 1 0 = NOT", "item 0 2 1 LONGMIN",
            "who 0 2 0 1 0 = NOT", "item 0 2 1 LONGMAX", "who 0 2 0 1 0 = NOT", "item 0 2 1 99999", "who 0 2 0 1 0 = NONE");
        edge("23 who: the greatest sums", "people 'f0,w0'", "sheet 0 1 4", "item 0 1 0 9", "item 0 1 1 99999", "item 0 1 2 99999", "item 0 1 3 9", "who 0 1 0 1 0 = 1",
            "item 0 1 0 99999", "who 0 1 0 1 0 = NONE");
        edge("23 who NONE: there are none", Edges.join(two, Edges.run("item 0 1 5 5", "who 0 1 2 1 -1 = NONE", "who 0 1 2 1 0 = NONE", "who 0 1 2 3 2 = NONE")));
        edge("23 who: one alone asks nobody", "people 'f5'", "sheet 0 0 2", "film 0 0 0", "film 0 0 1", "who 0 0 0 1 -1 = NONE", "who 0 0 1 1 -1 = INDEX");
        edge("23 who: nobody there", "sheet 0 0 2", "who 0 0 0 1 -1 = NONE", "who 0 0 2 3 2 = NONE", "who 0 0 3 1 -1 = INDEX", "who 0 0 -1 1 -1 = INDEX");
        edge("23 who: five fill ten items, up to the last one", "people 'f0,f0,f0,f0,f0'", "sheet 0 2 24", "item 0 2 18 4", "item 0 2 22 2", "item 0 2 23 2",
            "who 0 2 14 1 0 = 34", "item 0 2 18 0", "item 0 2 17 4", "who 0 2 14 1 0 = 43", "who 0 2 15 1 0 = INDEX");
    }

    private static void sheets() {
        edge("24 sheet: holds a new row", "sheet 0 1 3 = 3", "item 0 1 0 7", "sheet 0 1 3 = 3", "holds 0 1 0 0 = 1", "holds 0 1 2 0 = 1", "sheet 0 2 5 = 5",
            "item 0 1 0 7 = CAST", "drop 0 = 5");
        edge("24 sheet: each by itself", "sheet 0 1 1", "sheet 1 1 2", "sheet 2 1 3", "sheet 3 1 4", "drop 1 = 2", "drop 1 = NULL", "drop 3 = 4", "drop 0 = 1", "drop 2 = 3");
        edgeAll("24 sheet BAD: a SHEET, a LANE", Edges.run(), "BAD", "sheet -1 0 1", "sheet 4 0 1", "sheet MIN 0 1", "sheet MAX 0 1", "sheet 0 -1 1", "sheet 0 3 1",
            "sheet 0 MIN 1", "sheet 0 MAX 1");
        edge("24 sheet BAD: also n above 24", "sheet 0 0 24 = 24", "sheet 0 0 25 = BAD", "sheet 0 1 MAX = BAD", "sheet 1 2 25 = BAD", "drop 0 = 24", "drop 1 = NULL");
        edge("24 sheet SIZE: n below 0", "sheet 0 0 0 = 0", "sheet 0 0 -1 = SIZE", "sheet 0 1 MIN = SIZE", "sheet 1 2 -1 = SIZE", "drop 0 = 0", "drop 1 = NULL");
        edge("25 drop: how many items it had", "sheet 0 0 0", "sheet 3 2 24", "drop 0 = 0", "drop 3 = 24");
        edgeAll("25 drop BAD", Edges.run("sheet 0 0 1"), "BAD", "drop -1", "drop 4", "drop MIN", "drop MAX");
        edge("25 drop NULL", "drop 0 = NULL", "sheet 0 0 1", "drop 0 = 1", "drop 0 = NULL", "item 0 0 0 0 = NULL");
    }

    private static void items() {
        edge("26 item: its lowest bits (with its sign): bytes", "sheet 0 0 6", "item 0 0 0 127 = 1", "item 0 0 1 128 = 1", "item 0 0 2 261 = 1", "item 0 0 3 -251 = 1",
            "item 0 0 4 -1 = 1", "item 0 0 5 LONGMIN = 1", "holds 0 0 0 127 = 1", "holds 0 0 2 5 = 1", "holds 0 0 3 5 = 1", "holds 0 0 5 0 = 1", "people 'f1'",
            "who 0 0 0 1 -1 = NOT", "who 0 0 1 1 -1 = NOT", "who 0 0 2 1 -1 = NONE", "who 0 0 4 1 -1 = NOT");
        edge("26 item: its lowest bits (with its sign): ints", "sheet 0 1 6", "item 0 1 0 4294967301 = 1", "item 0 1 1 -4294967291 = 1", "item 0 1 2 2147483648 = 1",
            "item 0 1 3 0 = 1", "item 0 1 4 300 = 1", "item 0 1 5 LONGMIN = 1", "holds 0 1 0 5 = 1", "holds 0 1 1 5 = 1", "holds 0 1 4 300 = 1", "holds 0 1 5 0 = 1",
            "people 'f1'", "who 0 1 0 1 -1 = NONE", "who 0 1 2 1 -1 = NOT", "who 0 1 3 1 -1 = NONE");
        edge("26 item: its lowest bits (with its sign): longs", "sheet 0 2 5", "item 0 2 0 4294967301 = 1", "item 0 2 2 LONGMIN = 1", "item 0 2 4 99999 = 1",
            "holds 0 2 0 5 = 0", "holds 0 2 2 0 = 0", "holds 0 2 4 99999 = 1", "people 'f1'", "who 0 2 0 1 -1 = NOT", "who 0 2 2 1 -1 = NOT", "who 0 2 3 1 -1 = NONE");
        edge("26 item: that one alone", "sheet 0 1 3", "item 0 1 0 5", "item 0 1 1 6", "item 0 1 2 7", "item 0 1 1 8", "holds 0 1 0 5 = 1", "holds 0 1 1 8 = 1",
            "holds 0 1 2 7 = 1");
        edgeAll("26 item BAD", Edges.run("sheet 0 1 3"), "BAD", "item -1 1 0 0", "item 4 1 0 0", "item MIN 1 0 0", "item MAX 1 0 0", "item 0 -1 0 0", "item 0 3 0 0",
            "item 0 MIN 0 0", "item 0 MAX 0 0");
        edgeAll("26 item NULL", Edges.run("sheet 0 1 3"), "NULL", "item 1 1 0 0", "item 2 0 99 0", "item 3 2 -1 0");
        edgeAll("26 item CAST", Edges.run("sheet 0 1 3"), "CAST", "item 0 0 0 0", "item 0 2 0 0", "item 0 0 99 0");
        edgeAll("26 item INDEX", Edges.run("sheet 0 1 3", "item 0 1 2 0 = 1"), "INDEX", "item 0 1 3 0", "item 0 1 -1 0", "item 0 1 MIN 0", "item 0 1 MAX 0");
        edge("26 item INDEX: of a row of none", "sheet 0 1 0", "item 0 1 0 0 = INDEX", "item 0 1 -1 0 = INDEX");
    }

    private static void films() {
        edge("27 film: from one on, how many", "people 'f5,c6,t7'", "sheet 0 1 5", "item 0 1 0 1", "item 0 1 4 2", "film 0 1 1 = 3", "holds 0 1 0 1 = 1", "holds 0 1 1 5 = 1",
            "holds 0 1 2 6 = 1", "holds 0 1 3 7 = 1", "holds 0 1 4 2 = 1");
        edge("27 film: their lowest bits, each with its sign", "people 'f127,f128,f256,f261,f9999'", "sheet 0 0 5", "film 0 0 0 = 5", "holds 0 0 0 127 = 1", "holds 0 0 2 0 = 1",
            "holds 0 0 3 5 = 1", "holds 0 0 4 15 = 1", "people 'f1'", "who 0 0 1 1 -1 = NOT", "who 0 0 2 1 -1 = NONE");
        edge("27 film: the greatest as ints, as longs", "people 'f9999,w9999'", "ask 0 1", "sheet 0 1 2", "sheet 1 2 2", "film 0 1 0 = 2", "film 1 2 0 = 2",
            "holds 0 1 0 19989 = 1", "holds 1 2 0 19989 = 1", "holds 1 2 1 9 = 1");
        edgeAll("27 film BAD", Edges.run("people 'f1'", "sheet 0 1 3"), "BAD", "film -1 1 0", "film 4 1 0", "film MIN 1 0", "film MAX 1 0", "film 0 -1 0", "film 0 3 0",
            "film 0 MIN 0", "film 0 MAX 0");
        edgeAll("27 film NULL", Edges.run("people 'f1'", "sheet 0 1 3"), "NULL", "film 1 1 0", "film 2 0 99", "film 3 2 -1");
        edgeAll("27 film CAST", Edges.run("people 'f1'", "sheet 0 1 3"), "CAST", "film 0 0 0", "film 0 2 0", "film 0 0 99");
        edgeAll("27 film INDEX", Edges.run("people 'f1,f1'", "sheet 0 1 3", "film 0 1 1 = 2"), "INDEX", "film 0 1 2", "film 0 1 3", "film 0 1 4", "film 0 1 -1", "film 0 1 MIN",
            "film 0 1 MAX", "film 0 1 2147483646");
        edge("27 film INDEX of none, too: from below 0, or above how many there are", "sheet 0 1 3", "film 0 1 0 = 0", "film 0 1 3 = 0", "film 0 1 4 = INDEX", "film 0 1 -1 = INDEX",
            "film 0 1 MIN = INDEX", "film 0 1 MAX = INDEX", "sheet 0 1 0", "film 0 1 0 = 0", "film 0 1 1 = INDEX");
    }

    private static void copies() {
        String[] row = {"sheet 0 1 4", "item 0 1 0 1", "item 0 1 1 2", "item 0 1 2 3", "item 0 1 3 4", "sheet 1 1 3", "sheet 2 0 4"};
        edge("28 copy: n items from i on come to another one from j on", Edges.join(row, Edges.run("copy 0 2 1 1 2 = 2", "holds 1 1 0 0 = 1", "holds 1 1 1 3 = 1",
            "holds 1 1 2 4 = 1", "holds 0 1 2 3 = 1")));
        edge("28 copy: what is copied is not what changes later", Edges.join(row, Edges.run("copy 0 0 1 0 3 = 3", "item 0 1 0 9", "holds 1 1 0 1 = 1", "drop 0",
            "holds 1 1 2 3 = 1")));
        edge("28 copy: the same, as if all were taken ahead, onward", Edges.join(row, Edges.run("copy 0 0 0 1 3 = 3", "holds 0 1 0 1 = 1", "holds 0 1 1 1 = 1",
            "holds 0 1 2 2 = 1", "holds 0 1 3 3 = 1")));
        edge("28 copy: the same, as if all were taken ahead, back", Edges.join(row, Edges.run("copy 0 1 0 0 3 = 3", "holds 0 1 0 2 = 1", "holds 0 1 1 3 = 1",
            "holds 0 1 2 4 = 1", "holds 0 1 3 4 = 1")));
        edge("28 copy: the same to the same place", Edges.join(row, Edges.run("copy 0 0 0 0 4 = 4", "holds 0 1 0 1 = 1", "holds 0 1 3 4 = 1")));
        edge("28 copy: all 24", "sheet 0 2 24", "sheet 1 2 24", "item 0 2 0 5", "item 0 2 23 6", "copy 0 0 1 0 24 = 24", "copy 0 0 1 0 25 = INDEX", "holds 1 2 0 5 = 1",
            "holds 1 2 23 6 = 1");
        edgeAll("28 copy BAD", row, "BAD", "copy -1 0 1 0 1", "copy 4 0 1 0 1", "copy MIN 0 1 0 1", "copy MAX 0 1 0 1", "copy 0 0 -1 0 1", "copy 0 0 4 0 1", "copy 0 0 MIN 0 1",
            "copy 0 0 MAX 0 1", "copy 3 0 4 0 1", "copy 4 0 3 0 1");
        edgeAll("28 copy NULL (either)", row, "NULL", "copy 3 0 1 0 1", "copy 0 0 3 0 1", "copy 3 0 3 0 0", "copy 3 99 0 99 -1", "copy 0 99 3 99 -1");
        edgeAll("28 copy CAST: of unlike LANES", row, "CAST", "copy 0 0 2 0 1", "copy 2 0 0 0 1", "copy 0 0 2 0 0", "copy 0 99 2 99 -1");
        edgeAll("28 copy INDEX", row, "INDEX", "copy 0 0 1 0 4", "copy 0 0 1 1 3", "copy 0 2 1 0 3", "copy 0 4 1 0 1", "copy 0 0 1 3 1", "copy 0 5 1 0 1", "copy 0 -1 1 0 1",
            "copy 0 0 1 -1 1", "copy 0 MIN 1 0 1", "copy 0 0 1 MIN 1");
        edgeAll("28 copy INDEX: sums that wrap around", row, "INDEX", "copy 0 MAX 1 0 1", "copy 0 0 1 MAX 1", "copy 0 0 1 0 MAX", "copy 0 1 1 0 MAX", "copy 0 0 1 1 MAX",
            "copy 0 MAX 1 MAX MAX", "copy 0 MIN 1 MIN MIN", "copy 0 MAX 1 0 MIN");
        edgeAll("28 copy INDEX (n below 0, too)", row, "INDEX", "copy 0 0 1 0 -1", "copy 0 2 1 2 -1", "copy 0 0 0 0 -1", "copy 0 0 1 0 MIN");
        edge("28 copy INDEX (with n 0, too, if i or j is below 0 or above how many there are)", Edges.join(row, Edges.run("copy 0 4 1 3 0 = 0", "copy 0 0 1 0 0 = 0",
            "copy 0 5 1 0 0 = INDEX", "copy 0 0 1 4 0 = INDEX", "copy 0 -1 1 0 0 = INDEX", "copy 0 0 1 -1 0 = INDEX", "copy 0 MAX 1 0 0 = INDEX", "copy 0 0 1 MIN 0 = INDEX",
            "sheet 1 1 0", "copy 0 0 1 0 0 = 0", "copy 1 0 1 0 0 = 0", "copy 1 1 1 0 0 = INDEX", "copy 1 0 0 0 1 = INDEX")));
    }
}
