/** Each promise of the document by itself: ordinary inputs, the edges it names, wrong inputs. */
public final class PromisesTest {
    private static final int BAD = HalfAsked.BAD, NOT = HalfAsked.NOT, FULL = HalfAsked.FULL, NONE = HalfAsked.NONE;
    private static final int NULL = HalfAsked.NULL, CAST = HalfAsked.CAST, INDEX = HalfAsked.INDEX, SIZE = HalfAsked.SIZE;
    private static final int MIN = Integer.MIN_VALUE, MAX = Integer.MAX_VALUE;
    private static final Check check = new Check();

    private static void due(String what, long got, long want) {
        check.due(what, got, want);
    }

    public static void main(String[] args) {
        p01NewObject();
        p02Person();
        p03Set();
        p04Told();
        p05Knows();
        p06Ask();
        p07Week();
        p08Type();
        p09People();
        p10Plan();
        p11Count();
        p12Run();
        p13Most();
        p14When();
        p15Turns();
        p16Ends();
        p17Order();
        p18So();
        p19Exact();
        p20Shun();
        p21Image();
        p22Restore();
        p23Who();
        p24Sheet();
        p25Drop();
        p26Item();
        p27Film();
        p28Copy();
        foundIsForgotten();
        check.end("promises");
    }

    private static void p01NewObject() {
        HalfAsked x = new HalfAsked();
        for (int what = 0; what < 5; what++) due("1 count " + what, x.count(what), 0);
        due("1 nobody", x.told(0, 1), BAD);
        due("1 no tape", x.people(), -20);
        due("1 no image", x.restore(), NONE);
        due("1 no plan", x.run(), 0);
        for (int sheet = 0; sheet < 4; sheet++) due("1 sheet " + sheet, x.drop(sheet), NULL);
    }

    private static void p02Person() {
        HalfAsked x = new HalfAsked();
        int[][] wrong = {{-1, 0}, {4, 0}, {0, -1}, {0, 10000}, {MIN, 5}, {MAX, 5}, {1, MIN}, {1, MAX}};
        for (int[] w : wrong) due("2 person(" + w[0] + ", " + w[1] + ")", x.person(w[0], w[1]), BAD);
        for (int i = 0; i < 5; i++) due("2 the " + i + "-th", x.person(i % 4, i == 4 ? 9999 : 0), i);
        due("2 full", x.person(0, 0), FULL);
        due("2 bad ahead of full", x.person(4, 0), BAD);
        due("2 all know him", x.told(0, 3), 30);
        due("2 he knows all", x.told(4, 3), 15);
        due("2 kind", x.told(3, 0), 3);
        due("2 pence", x.told(4, 1), 9999);
        HalfAsked y = Check.with("f5,f5", "0>1");
        y.ask(0, 1);
        y.knows(0, 1, false);
        due("2 a third", y.person(2, 8), 2);
        due("2 the plan stays", y.count(3), 1);
        due("2 askings stay", y.count(2), 1);
        due("2 who knows whom stays", y.told(0, 3), 4);
    }

    private static void p03Set() {
        HalfAsked x = Check.with("f5,c6", "");
        due("3 what they were", x.set(1, 9999), 6);
        due("3 what they are", x.set(1, 0), 9999);
        due("3 the other", x.told(0, 1), 5);
        int[][] wrong = {{-1, 1}, {2, 1}, {0, -1}, {0, 10000}, {MAX, 0}, {MIN, 0}};
        for (int[] w : wrong) due("3 set(" + w[0] + ", " + w[1] + ")", x.set(w[0], w[1]), BAD);
        due("3 what is refused changes nothing", x.told(0, 1), 5);
        HalfAsked rich = Check.with("f9999,w9999", "");
        rich.ask(0, 1);
        due("3 above what can be set", rich.set(0, 0), 9999 + 9990);
    }

    private static void p04Told() {
        int[] pence = {0, 1, 2, 3, 8, 9, 10, 11, 9998, 9999};
        int[][] gives = {
            {0, 1, 1, 2, 4, 5, 5, 6, 4999, 5000},
            {0, 0, 1, 1, 4, 4, 5, 5, 4999, 4999},
            {0, 0, 0, 1, 2, 3, 3, 3, 3332, 3333},
            {0, 0, 0, 0, 0, 0, 1, 2, 9989, 9990}};
        for (int kind = 0; kind < 4; kind++) {
            HalfAsked x = new HalfAsked();
            x.person(kind, 0);
            for (int i = 0; i < pence.length; i++) {
                x.set(0, pence[i]);
                due("4 kind " + kind + " gives of " + pence[i], x.told(0, 2), gives[kind][i]);
                due("4 pence", x.told(0, 1), pence[i]);
            }
            due("4 kind", x.told(0, 0), kind);
        }
        HalfAsked x = Check.with("f5,f5,f5", "");
        x.ask(1, 0);
        x.ask(1, 2);
        due("4 whom he has asked", x.told(1, 4), 5);
        due("4 whom another has asked", x.told(0, 4), 0);
        due("4 whom he knows", x.told(1, 3), 5);
        for (int what : new int[] {-1, 5, MIN, MAX}) due("4 what " + what, x.told(0, what), BAD);
        for (int who : new int[] {-1, 3, MIN, MAX}) due("4 who " + who, x.told(who, 0), BAD);
    }

    private static void p05Knows() {
        HalfAsked x = Check.with("f5,f5,f5", "");
        due("5 he did", x.knows(0, 1, false), 1);
        due("5 he did not", x.knows(0, 1, false), 0);
        due("5 not any more", x.told(0, 3), 4);
        due("5 the other way stays", x.told(1, 3), 5);
        due("5 not lawful then", x.ask(0, 1), NOT);
        due("5 he did not, again", x.knows(0, 1, true), 0);
        due("5 he does", x.knows(0, 1, true), 1);
        due("5 lawful then", x.ask(0, 1), 3);
        int[][] wrong = {{0, 0}, {2, 2}, {-1, 0}, {0, -1}, {3, 0}, {0, 3}, {MIN, 1}, {1, MAX}};
        for (int[] w : wrong) due("5 knows(" + w[0] + ", " + w[1] + ")", x.knows(w[0], w[1], false), BAD);
        due("5 refused", x.told(2, 3), 3);
    }

    private static void p06Ask() {
        HalfAsked x = Check.with("f7,c7,t8,w12,f0", "");
        due("6 free", x.ask(1, 0), 4);
        due("6 close", x.ask(0, 1), 5);
        due("6 third", x.ask(0, 2), 2);
        due("6 widow", x.ask(0, 3), 3);
        due("6 who has nothing", x.ask(0, 4), NOT);
        due("6 once a week", x.ask(0, 1), NOT);
        due("6 what he has then", x.told(0, 1), 3 + 5 + 2 + 3);
        due("6 who has nothing asks", x.ask(4, 3), 0);
        due("6 nothing was given, but asked", x.told(4, 4), 8);
        due("6 and so not again", x.ask(4, 3), NOT);
        int[][] wrong = {{0, 0}, {-1, 0}, {0, -1}, {5, 0}, {0, 5}, {MIN, 0}, {0, MAX}};
        for (int[] w : wrong) due("6 ask(" + w[0] + ", " + w[1] + ")", x.ask(w[0], w[1]), BAD);
        due("6 pence of all", x.count(1), 34);
    }

    private static void p07Week() {
        HalfAsked x = Check.with("f9,f9,f9", "");
        due("7 none", x.week(), 0);
        x.ask(0, 1);
        x.ask(1, 0);
        x.ask(0, 1);
        due("7 two", x.week(), 2);
        due("7 nobody has asked", x.told(0, 4), 0);
        due("7 may ask again", x.ask(0, 1) >= 0 ? 1 : 0, 1);
        due("7 one", x.week(), 1);
        due("7 none again", x.week(), 0);
    }

    private static void p08Type() {
        HalfAsked x = new HalfAsked();
        for (int n : new int[] {0, 9, -1, MIN, MAX}) due("8 n " + n, x.type(0x4141414141414141L, n), BAD);
        due("8 byte 31", x.type(31, 1), BAD);
        due("8 byte 127", x.type(127, 1), BAD);
        due("8 byte 255", x.type(-1, 8), BAD);
        due("8 a byte above counts not", x.type(0x0166L, 1), 1);
        due("8 a byte of the n counts", x.type(0x0166L, 2), BAD);
        due("8 the highest first", x.type(0x2030, 2), 3);
        due("8 so they were typed", x.people(), 1);
        for (int i = 1; i <= 9; i++) due("8 eight more", x.type(0x2020202020202020L, 8), 8 * i);
        due("8 seven more", x.type(0x7e7e7e7e7e7e7eL, 7), 79);
        due("8 two are too many", x.type(0x2020, 2), FULL);
        due("8 bad ahead of full", x.type(31, 8), BAD);
        due("8 one is not", x.type(0x20, 1), 80);
        due("8 full", x.type(0x20, 1), FULL);
        due("8 a fault at 72", x.people(), -92);
        due("8 empty then", x.type(0x20, 1), 1);
    }

    private static void p09People() {
        HalfAsked x = Check.with("f5,c6,t7,w8,f9", "0>1,1>0");
        due("9 all there", x.count(0), 5);
        due("9 kinds", x.told(1, 0) + 10 * x.told(2, 0) + 100 * x.told(3, 0), 321);
        x.ask(0, 1);
        x.knows(0, 1, false);
        String[] texts = {"", " ", "5", "F5", "f", "f ", "fx", "f5,", "f5,5", "f5;c5", "f5 5", "f5c6", "f10000", "f5,c 010000 ,x",
            "f99999999999999999999999999", "f1,f1,f1,f1,f1,", "f1,f1,f1,f1,f1 f", ",f1", "f-1", "f5x", "f5,,c1", "f 12 3"};
        int[] faults = {0, 1, 0, 0, 1, 2, 1, 3, 3, 2, 3, 2, 1, 5, 1, 14, 15, 0, 1, 2, 3, 5};
        for (int i = 0; i < texts.length; i++) {
            due("9 '" + texts[i] + "'", Check.people(x, texts[i]), -20 - faults[i]);
        }
        due("9 all else stays: people", x.count(0), 5);
        due("9 all else stays: askings", x.count(2), 1);
        due("9 all else stays: plan", x.count(3), 2);
        due("9 all else stays: known", x.told(0, 3), 28);
        due("9 what was tried ahead of it leaves nothing", x.shun(0), 1);
        due("9 blanks, zeros", Check.people(x, "  w  0000000000009999 , f 00 ,c1"), 3);
        due("9 pence", x.told(0, 1), 9999);
        due("9 nothing", x.told(1, 1), 0);
        due("9 all know all", x.told(0, 3), 6);
        due("9 nobody has asked", x.count(2), 0);
        due("9 no plan", x.count(3), 0);
        x.person(0, 0);
        due("9 a later one is known, too", x.told(0, 3), 14);
    }

    private static void p10Plan() {
        HalfAsked x = Check.with("f5,c6,t7", "0>1;1>0,2>0");
        String[] texts = {"", "  ", "3>0", "0>3", "0>0", "0", "0>", "0 >", "0>1,", "0>1 , ", "0>1;;", "0>1;,", "0>1,,", ";", "x", "0>1 1>2",
            "01>2", "0>12", "0>1;3", "0>1,1>0,0>1,1>0,0>1,1>0,0>1,1>0,", "0>1,1>0,0>1,1>0,0>1,1>0,0>1,1>0; 1", ">", "0,1", "/>1"};
        int[] faults = {0, 2, 0, 2, 2, 1, 2, 3, 4, 6, 4, 4, 4, 0, 0, 4, 1, 3, 4, 31, 33, 0, 1, 0};
        for (int i = 0; i < texts.length; i++) {
            due("10 '" + texts[i] + "'", Check.plan(x, texts[i]), -20 - faults[i]);
        }
        due("10 the plan stays", x.count(3), 3);
        due("10 its weeks stay", x.count(4), 1);
        due("10 eight", Check.plan(x, "0>1,1>0,0>1,1>0,0>1,1>0,0>1,1>0"), 8);
        due("10 no weeks", x.count(4), 0);
        due("10 eight weeks, blanks", Check.plan(x, " 0 > 1;1>0 ; 0>1;1>0;0>1;1>0;0>1;1>0 ; "), 8);
        due("10 all end a week", x.count(4), 8);
        due("10 in place of it", Check.plan(x, "2>1"), 1);
        due("10 one", x.count(3), 1);
        due("10 of people there are", Check.plan(Check.with("f5", ""), "0>1"), -22);
        due("10 of nobody", Check.plan(new HalfAsked(), "0>1"), -20);
    }

    private static void p11Count() {
        HalfAsked x = Check.with("f5,c6,t7", "0>1;1>0,2>0;");
        x.ask(0, 1);
        int[] want = {3, 18, 1, 3, 2};
        for (int what = 0; what < 5; what++) due("11 count " + what, x.count(what), want[what]);
        for (int what : new int[] {-1, 5, MIN, MAX}) due("11 count " + what, x.count(what), BAD);
    }

    private static void p12Run() {
        HalfAsked x = Check.with("f8,f8,f0", "0>1,1>0,0>1,1>2");
        due("12 to the first that is not lawful", x.run(), 2);
        due("12 what is behind is not done", x.count(2), 2);
        due("12 pence", x.told(0, 1), 6);
        due("12 already asked", x.run(), 0);
        x.week();
        Check.plan(x, "0>1;0>1;");
        due("12 weeks end", x.run(), 2);
        due("12 behind the last, too", x.count(2), 0);
        due("12 pence then", x.told(1, 1), 2);
        Check.plan(x, "1>0,0>2;1>0");
        due("12 no week ends behind what is not done", x.run(), 1);
        due("12 one asking in this week", x.count(2), 1);
        x.week();
        due("12 from now on", x.run(), 1);
        due("12 no plan", Check.with("f1", "").run(), 0);
    }

    private static void p13Most() {
        HalfAsked x = Check.with("f10,f0,w9", "1>0,2>1");
        due("13 of each at his time", x.most(0), 9);
        due("13 changes nothing", x.told(0, 1), 10);
        due("13 ahead of another", x.most(2), 16);
        HalfAsked late = Check.with("f0,f8,f8", "1>2;");
        due("13 one ahead, one behind", late.most(0), 9);
        HalfAsked weeks = Check.with("f0,f8", "0>1;");
        due("13 besides his own, in another week", weeks.most(0), 6);
        Check.plan(weeks, "0>1");
        due("13 not in the same week", weeks.most(0), 4);
        weeks.knows(0, 1, false);
        due("13 whom he does not know", weeks.most(0), 0);
        HalfAsked leftOut = Check.with("f0,f8", "0>1,0>1;");
        due("13 left out, the week ends all the same", leftOut.most(0), 6);
        due("13 nobody", new HalfAsked().most(0), BAD);
        for (int who : new int[] {-1, 2, MIN, MAX}) due("13 most(" + who + ")", weeks.most(who), BAD);
    }

    private static void p14When() {
        HalfAsked x = Check.with("f10,f0,w9", "1>0,2>1");
        due("14 of like ways the first", x.when(0, 1), 1);
        due("14 when the last one has got all", x.when(0, 2), 2);
        due("14 of the last one", x.when(2, 0), 0);
        HalfAsked gone = Check.with("f4,f4", "1>0;1>0;");
        due("14 behind all", gone.when(0, 1), 2);
        HalfAsked none = Check.with("f4,f4,f0", "");
        due("14 a time for who has nothing", none.when(0, 2), 0);
        due("14 and for who has", none.when(0, 1), 0);
        for (int[] w : new int[][] {{0, 0}, {-1, 0}, {0, -1}, {3, 0}, {0, 3}, {MIN, 0}, {0, MAX}}) {
            due("14 when(" + w[0] + ", " + w[1] + ")", none.when(w[0], w[1]), BAD);
        }
    }

    private static void p15Turns() {
        HalfAsked x = Check.with("f8,f8", "");
        due("15 the first", x.turns(0), 1);
        due("15 the last", x.turns(1), 0);
        HalfAsked y = Check.with("f100,c37,t60,w25,f1", "");
        int[] want = {9, 2, 0, 4, 2};
        for (int who = 0; who < 5; who++) due("15 turns(" + who + ")", y.turns(who), want[who]);
        HalfAsked like = Check.with("f0,f8,f8", "");
        for (int a = 1; a < 3; a++) {
            for (int b = 0; b < 3; b++) like.knows(a, b, false);
        }
        due("15 of like ones the least", like.turns(0), 1);
        like.knows(0, 1, false);
        due("15 whom he knows", like.turns(0), 2);
        HalfAsked poor = Check.with("w5,w9,t2", "");
        for (int who = 0; who < 3; who++) due("15 nothing to gain", poor.turns(who), 9);
        HalfAsked asked = Check.with("f0,f8", "");
        asked.ask(0, 1);
        due("15 who has asked already", asked.turns(0), 9);
        asked.week();
        due("15 in a new week", asked.turns(0), 1);
        for (int who : new int[] {-1, 2, MIN, MAX}) due("15 turns(" + who + ")", x.turns(who), BAD);
    }

    private static void p16Ends() {
        HalfAsked y = Check.with("f100,c37,t60,w25,f1", "");
        int[] want = {50, 57, 60, 26, 30};
        for (int who = 0; who < 5; who++) due("16 ends(" + who + ")", y.ends(who), want[who]);
        due("16 changes nothing", y.told(0, 1), 100);
        due("16 one alone", Check.with("f7", "").ends(0), 7);
        for (int who : new int[] {-1, 5, MIN, MAX}) due("16 ends(" + who + ")", y.ends(who), BAD);
        due("16 nobody", new HalfAsked().ends(0), BAD);
    }

    private static void p17Order() {
        HalfAsked x = Check.with("f8,f0,f0", "2>1,1>0");
        due("17 most alike", x.order(-1), 2);
        due("17 the first of it", x.order(0), 1);
        due("17 the second", x.order(1), 0);
        due("17 no third", x.order(2), NONE);
        HalfAsked same = Check.with("f8,f8", "0>1;0>1,0>1");
        due("17 without ends of weeks", same.order(-1), 8);
        for (int i = 0; i < 3; i++) due("17 of like ones the first", same.order(i), i);
        due("17 nobody", new HalfAsked().order(-1), NONE);
        due("17 no plan", Check.with("f8,f3", "").order(-1), 5);
        due("17 no plan, no first", Check.with("f8,f3", "").order(0), NONE);
        for (int i : new int[] {-2, 6, MIN, MAX}) due("17 order(" + i + ")", x.order(i), BAD);
        Check.plan(x, "0>1,0>1,0>1,0>1,0>1,0>1,0>1");
        due("17 seven", x.order(-1), FULL);
        due("17 bad ahead of full", x.order(6), BAD);
        Check.plan(x, "0>1,0>1,0>1,0>1,0>1,0>1");
        due("17 six", x.order(5), 5);
    }

    private static void p18So() {
        HalfAsked x = Check.with("f8,f0,f0", "2>1,1>0");
        due("18 one order", x.so(6, 2), 1);
        due("18 both orders", x.so(4, 0) + x.so(4, 2), 2);
        due("18 all orders", x.so(1, 4), 2);
        due("18 none", x.so(7, 4), 0);
        due("18 like askings are two", Check.with("f8,f8", "0>1;0>1,0>1").so(2, 4), 6);
        due("18 no plan: one order", Check.with("f5,c5", "").so(3, 5), 1);
        for (int set : new int[] {0, -1, 8, MIN, MAX}) due("18 set " + set, x.so(set, 0), BAD);
        for (int pence : new int[] {-1, 100000, MIN, MAX}) due("18 pence " + pence, x.so(1, pence), BAD);
        due("18 the most that can be told", x.so(1, 99999), 0);
        due("18 nobody", new HalfAsked().so(1, 0), BAD);
        Check.plan(x, "0>1,0>1,0>1,0>1,0>1,0>1,0>1");
        due("18 seven", x.so(1, 0), FULL);
        due("18 bad ahead of full", x.so(0, 0), BAD);
        Check.plan(x, "0>1,0>1,0>1,0>1,0>1,0>1");
        due("18 six", x.so(1, 8), 720);
    }

    private static void p19Exact() {
        HalfAsked x = Check.with("w5,t3", "0>1,1>0,0>1");
        due("19 above", x.exact(0, 1, 0), 45);
        due("19 below", x.exact(0, 1, 1), 8);
        due("19 the other above", x.exact(1, 1, 0), 19);
        due("19 twice above", x.exact(1, 2, 0), 147);
        due("19 twice below", x.exact(1, 2, 1), 64);
        HalfAsked whole = Check.with("f8,f8", "0>1,0>1");
        due("19 whole above", whole.exact(0, 1, 0), 14);
        due("19 whole below", whole.exact(0, 1, 1), 1);
        whole.knows(0, 1, false);
        due("19 where the first knows the second", whole.exact(0, 3, 0), 8);
        HalfAsked zero = Check.with("f0,f0", "0>1");
        due("19 nothing above", zero.exact(0, 3, 0), 0);
        due("19 nothing below", zero.exact(0, 3, 1), 1);
        HalfAsked deep = Check.with("f0,f9999", "0>1;0>1;0>1;0>1;0>1;0>1;0>1;0>1");
        due("19 24 halves above", deep.exact(1, 3, 0), 9999);
        due("19 24 halves below", deep.exact(1, 3, 1), 1 << 24);
        due("19 the rest above", deep.exact(0, 3, 0), 9999L * ((1 << 24) - 1));
        for (int who : new int[] {-1, 2, MIN, MAX}) due("19 who " + who, x.exact(who, 1, 0), BAD);
        for (int n : new int[] {0, 4, MIN, MAX}) due("19 n " + n, x.exact(0, n, 0), BAD);
        for (int part : new int[] {-1, 2, MIN, MAX}) due("19 part " + part, x.exact(0, 1, part), BAD);
    }

    private static void p20Shun() {
        HalfAsked x = Check.with("f16,f0,f0", "1>0,2>0");
        due("20 of the one who takes most", x.shun(0), 1);
        HalfAsked like = Check.with("f16,f0,f0", "2>0;1>0");
        due("20 of like ones the least", like.shun(0), 1);
        due("20 nobody asks him", x.shun(1), 9);
        due("20 changes nothing", x.told(0, 1), 16);
        HalfAsked back = Check.with("f4,w10", "1>0,0>1");
        due("20 by none is it more: he gets it back", back.shun(0), 9);
        HalfAsked week = Check.with("t9,f0,f100", "0>2,1>0;0>2");
        due("20 a week ends behind what is left out", week.shun(0), 1);
        due("20 no plan", Check.with("f8,f8", "").shun(0), 9);
        for (int who : new int[] {-1, 3, MIN, MAX}) due("20 shun(" + who + ")", x.shun(who), BAD);
    }

    private static void p21Image() {
        HalfAsked x = new HalfAsked();
        due("21 of nobody", x.image(), 1);
        Check.people(x, "f5,c6");
        due("21 back to nobody", x.restore(), 1);
        due("21 nobody", x.count(0), 0);
        Check.people(x, "f5,c6");
        due("21 a later one in its place", x.image(), 1);
        x.person(0, 1);
        x.restore();
        due("21 the later one", x.count(0), 2);
    }

    private static void p22Restore() {
        HalfAsked x = new HalfAsked();
        due("22 none", x.restore(), NONE);
        Check.people(x, "f5,c6,t7");
        Check.plan(x, "0>1;1>2");
        x.ask(0, 1);
        x.knows(1, 2, false);
        x.image();
        x.sheet(0, 1, 3);
        x.week();
        x.knows(1, 2, true);
        x.set(2, 1);
        due("22 others in their place", Check.people(x, "w9"), 1);
        Check.type(x, "f4");
        for (int again = 0; again < 2; again++) {
            due("22 restored", x.restore(), 1);
            due("22 people", x.count(0), 3);
            due("22 pence", x.count(1), 18);
            due("22 askings", x.told(0, 4), 2);
            due("22 known", x.told(1, 3), 1);
            due("22 plan", x.count(3), 2);
            due("22 weeks", x.count(4), 1);
            x.set(0, 99);
            x.week();
            x.knows(0, 2, false);
            x.person(3, 3);
        }
        due("22 the tape stays", x.type(32, 1), 3);
        Check.type(x, ",f5");
        due("22 as it was typed", x.people(), 2);
        Check.plan(x, "1>0");
        x.restore();
        x.week();
        due("22 the plan that was", x.run(), 1);
        due("22 and what it gives", x.told(0, 1), 9);
        due("22 sheets stay", x.drop(0), 3);
    }

    private static void p23Who() {
        HalfAsked x = Check.with("f8,f8,f8", "");
        x.sheet(0, 2, 6);
        x.ask(0, 1);
        int[] pence = {8, 4, 1, 10, 2, 1};
        for (int i = 0; i < 6; i++) x.item(0, 2, i, pence[i]);
        due("23 one row of one asking", x.who(0, 2, 0, 1, -1), 1);
        due("23 it, in a week that begins then", x.who(0, 2, 0, 1, 0), 1);
        due("23 two askings", x.who(0, 2, 0, 2, -1), 1);
        due("23 by the last one", x.who(0, 2, 0, 2, 0), 21);
        due("23 of the last one", x.who(0, 2, 0, 2, 1), 2);
        x.knows(0, 1, false);
        due("23 whom each knows as now", x.who(0, 2, 0, 1, -1), NONE);
        x.knows(0, 1, true);
        due("23 k 0", x.who(0, 2, 0, 0, -1), BAD);
        due("23 k 4", x.who(0, 2, 0, 4, -1), BAD);
        due("23 i -2", x.who(0, 2, 0, 3, -2), BAD);
        due("23 i k", x.who(0, 2, 0, 2, 2), BAD);
        due("23 sheet 4", x.who(4, 2, 0, 1, -1), BAD);
        due("23 sheet -1", x.who(-1, 2, 0, 1, -1), BAD);
        due("23 lane 3", x.who(0, 3, 0, 1, -1), BAD);
        due("23 lane -1", x.who(1, -1, 0, 1, -1), BAD);
        due("23 missing", x.who(1, 2, 0, 1, -1), NULL);
        due("23 lane", x.who(0, 1, 9, 1, -1), CAST);
        for (int from : new int[] {1, -1, MIN, MAX}) due("23 from " + from, x.who(0, 2, from, 1, -1), INDEX);
        x.item(0, 2, 3, 11);
        due("23 of other sums by the first alone", x.who(0, 2, 0, 1, -1), NONE);
        x.item(0, 2, 5, 100000);
        due("23 not told", x.who(0, 2, 0, 1, -1), NOT);
        x.item(0, 2, 5, -1);
        due("23 not told", x.who(0, 2, 0, 1, -1), NOT);
        x.item(0, 2, 5, 99999);
        due("23 none", x.who(0, 2, 0, 1, -1), NONE);
        HalfAsked zero = Check.with("w5,w6", "");
        zero.sheet(1, 0, 5);
        zero.film(1, 0, 1);
        zero.film(1, 0, 3);
        due("23 askings of nothing", zero.who(1, 0, 1, 2, -1), 2);
        due("23 the least first", zero.who(1, 0, 1, 2, 0), 1);
        due("23 and then", zero.who(1, 0, 1, 2, 1), 10);
        due("23 no third in a week", zero.who(1, 0, 1, 3, -1), NONE);
        HalfAsked nobody = new HalfAsked();
        nobody.sheet(0, 0, 2);
        due("23 nobody asks", nobody.who(0, 0, 2, 1, -1), NONE);
        due("23 nobody, from too far on", nobody.who(0, 0, 3, 1, -1), INDEX);
    }

    private static void p24Sheet() {
        HalfAsked x = new HalfAsked();
        due("24 bytes", x.sheet(0, 0, 24), 24);
        due("24 ints", x.sheet(1, 1, 0), 0);
        due("24 longs", x.sheet(3, 2, 1), 1);
        due("24 anew", x.sheet(0, 2, 5), 5);
        due("24 of the new lane", x.item(0, 2, 4, 1), 1);
        due("24 of the new length", x.drop(0), 5);
        int[][] wrong = {{-1, 0, 1}, {4, 0, 1}, {0, -1, 1}, {0, 3, 1}, {0, 0, 25}, {0, 0, MAX}, {4, 0, -1}, {0, 3, -1}};
        for (int[] w : wrong) due("24 sheet(" + w[0] + ", " + w[1] + ", " + w[2] + ")", x.sheet(w[0], w[1], w[2]), BAD);
        due("24 below 0", x.sheet(1, 2, -1), SIZE);
        due("24 far below 0", x.sheet(1, 2, MIN), SIZE);
        due("24 refused", x.item(1, 1, 0, 0), INDEX);
    }

    private static void p25Drop() {
        HalfAsked x = new HalfAsked();
        x.sheet(2, 1, 7);
        due("25 items", x.drop(2), 7);
        due("25 nothing", x.drop(2), NULL);
        for (int sheet : new int[] {-1, 4, MIN, MAX}) due("25 drop(" + sheet + ")", x.drop(sheet), BAD);
    }

    /** Whether an item is a number, told by who(): from it to it nothing is asked, so the row must be there. */
    private static void dueItem(HalfAsked x, int sheet, int lane, int i, int want) {
        HalfAsked told = x;
        x.sheet(3, lane, 4);
        x.copy(sheet, i, 3, 0, 1);
        x.item(3, lane, 1, 4);
        x.item(3, lane, 2, want + 2);
        x.item(3, lane, 3, 2);
        due("item " + i + " of sheet " + sheet + " is " + want, told.who(3, lane, 0, 1, 0), 1);
    }

    private static void p26Item() {
        HalfAsked x = Check.with("f0,f0", "");
        x.sheet(0, 0, 4);
        x.sheet(1, 1, 4);
        x.sheet(2, 2, 4);
        due("26 a byte", x.item(0, 0, 3, 256 + 77), 1);
        dueItem(x, 0, 0, 3, 77);
        due("26 an int", x.item(1, 1, 0, (5L << 32) + 1234), 1);
        dueItem(x, 1, 1, 0, 1234);
        due("26 a long", x.item(2, 2, 1, 1235), 1);
        dueItem(x, 2, 2, 1, 1235);
        HalfAsked one = Check.with("f0", "");
        one.sheet(0, 0, 2);
        one.item(0, 0, 0, 200);
        due("26 with its sign", one.who(0, 0, 0, 1, -1), NOT);
        one.sheet(0, 2, 2);
        one.item(0, 2, 0, 1L << 40);
        due("26 a long is not cut", one.who(0, 2, 0, 1, -1), NOT);
        due("26 sheet", x.item(4, 0, 0, 0), BAD);
        due("26 lane", x.item(0, 3, 0, 0), BAD);
        due("26 missing", Check.with("f0", "").item(0, 0, 0, 0), NULL);
        due("26 another lane", x.item(0, 1, 9, 0), CAST);
        for (int i : new int[] {-1, 4, MIN, MAX}) due("26 item " + i, x.item(0, 0, i, 0), INDEX);
    }

    private static void p27Film() {
        HalfAsked x = Check.with("f9,f4", "");
        x.sheet(0, 1, 4);
        due("27 first", x.film(0, 1, 0), 2);
        x.ask(0, 1);
        due("27 then", x.film(0, 1, 2), 2);
        due("27 what is filmed", x.who(0, 1, 0, 1, 0), 1);
        due("27 too far on", x.film(0, 1, 3), INDEX);
        for (int from : new int[] {-1, 5, MIN, MAX}) due("27 from " + from, x.film(0, 1, from), INDEX);
        due("27 another lane", x.film(0, 0, 9), CAST);
        due("27 missing", x.film(1, 0, 9), NULL);
        due("27 sheet", x.film(-1, 0, 0), BAD);
        due("27 lane", x.film(1, 3, 0), BAD);
        HalfAsked nobody = new HalfAsked();
        nobody.sheet(0, 0, 3);
        due("27 of none", nobody.film(0, 0, 3), 0);
        due("27 of none below", nobody.film(0, 0, -1), INDEX);
        due("27 of none above", nobody.film(0, 0, 4), INDEX);
        HalfAsked low = Check.with("f200,f256", "");
        low.sheet(0, 0, 4);
        low.film(0, 0, 0);
        due("27 lowest bits with their sign", low.who(0, 0, 0, 1, -1), NOT);
        Check.people(low, "f260,f256");
        low.film(0, 0, 0);
        low.item(0, 0, 2, 2);
        low.item(0, 0, 3, 2);
        due("27 lowest bits", low.who(0, 0, 0, 1, 0), 10);
    }

    private static void p28Copy() {
        HalfAsked x = Check.with("f0,f0", "");
        x.sheet(0, 1, 6);
        x.sheet(1, 1, 3);
        x.sheet(2, 2, 6);
        for (int i = 0; i < 6; i++) x.item(0, 1, i, 10 + i);
        due("28 to another", x.copy(0, 3, 1, 0, 3), 3);
        for (int i = 0; i < 3; i++) dueItem(x, 1, 1, i, 13 + i);
        due("28 onward in the same", x.copy(0, 0, 0, 1, 5), 5);
        for (int i = 0; i < 6; i++) dueItem(x, 0, 1, i, i == 0 ? 10 : 9 + i);
        due("28 back in the same", x.copy(0, 1, 0, 0, 5), 5);
        for (int i = 0; i < 6; i++) dueItem(x, 0, 1, i, i == 5 ? 14 : 10 + i);
        due("28 none at the end", x.copy(0, 6, 1, 3, 0), 0);
        int[][] beyond = {{0, 7, 1, 0, 0}, {0, 0, 1, 4, 0}, {0, -1, 1, 0, 0}, {0, 0, 1, -1, 0}, {0, 0, 1, 0, 4}, {0, 4, 1, 0, 3},
            {0, 0, 1, 1, 3}, {0, 0, 1, 0, -1}, {0, 0, 1, 0, MIN}, {0, 0, 1, 0, MAX}, {0, MAX, 1, 0, 1}, {0, 0, 1, MAX, 1}, {0, 0, 1, MIN, 1}};
        for (int[] b : beyond) due("28 beyond", x.copy(b[0], b[1], b[2], b[3], b[4]), INDEX);
        due("28 unlike lanes", x.copy(0, 0, 2, 0, -1), CAST);
        x.drop(1);
        due("28 from a missing one", x.copy(1, 0, 2, 0, -1), NULL);
        due("28 to a missing one", x.copy(2, 0, 1, 0, -1), NULL);
        for (int sheet : new int[] {-1, 4, MIN, MAX}) {
            due("28 from " + sheet, x.copy(sheet, 0, 1, 0, 1), BAD);
            due("28 to " + sheet, x.copy(1, 0, sheet, 0, 1), BAD);
        }
    }

    /** What the searches found must not outlive any call that changes something. */
    private static void foundIsForgotten() {
        String[] changes = {"person", "set", "knows", "ask", "week", "people", "plan", "run", "restore"};
        for (String change : changes) {
            HalfAsked x = Check.with("f16,f8,f4", "0>1,1>2;2>0");
            x.image();
            x.ask(1, 0);
            searchAll(x);
            change(x, change);
            HalfAsked y = Check.with("f16,f8,f4", "0>1,1>2;2>0");
            y.image();
            y.ask(1, 0);
            change(y, change);
            due("behind " + change, searchAll(x), searchAll(y));
        }
    }

    private static void change(HalfAsked x, String how) {
        switch (how) {
            case "person": x.person(0, 40); break;
            case "set": x.set(1, 90); break;
            case "knows": x.knows(0, 1, false); break;
            case "ask": x.ask(0, 1); break;
            case "week": x.week(); break;
            case "people": Check.people(x, "f7,c99"); break;
            case "plan": Check.plan(x, "1>2"); break;
            case "run": x.run(); break;
            default: x.restore(); break;
        }
    }

    private static long searchAll(HalfAsked x) {
        long all = 0;
        for (int who = 0; who < x.count(0); who++) {
            all = all * 31 + x.most(who);
            for (int other = 0; other < x.count(0); other++) all = all * 31 + x.when(who, other);
            all = all * 31 + x.turns(who);
            all = all * 31 + x.ends(who);
        }
        for (int i = -1; i < 6; i++) all = all * 31 + x.order(i);
        return all;
    }
}
