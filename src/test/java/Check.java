/** Counts answers that are not as due, tells them, and ends a test's program by them. */
final class Check {
    private int wrong = 0;
    private int asked = 0;

    void due(String call, long got, long want) {
        asked++;
        if (got != want) {
            wrong++;
            System.out.println(call + " answered " + got + ", due is " + want);
        }
    }

    void holds(String what, boolean is) {
        due(what, is ? 1 : 0, 1);
    }

    boolean isClean() {
        return wrong == 0;
    }

    void end(String name) {
        System.out.println(name + ": " + asked + " answers, " + wrong + " not as due");
        if (wrong != 0 || asked == 0) {
            System.exit(1);
        }
    }

    /** Types a text by as many calls as it takes. */
    static int type(HalfAsked x, String text) {
        int answer = 0;
        for (int at = 0; at < text.length(); at += 8) {
            String part = text.substring(at, Math.min(text.length(), at + 8));
            answer = x.type(packed(part), part.length());
        }
        return answer;
    }

    static long packed(String part) {
        long w = 0;
        for (char sign : part.toCharArray()) {
            w = w << 8 | sign;
        }
        return w;
    }

    static int people(HalfAsked x, String text) {
        type(x, text);
        return x.people();
    }

    static int plan(HalfAsked x, String text) {
        type(x, text);
        return x.plan();
    }

    /** A new object with people and, if the text of one is not empty, a plan. */
    static HalfAsked with(String people, String plan) {
        HalfAsked x = new HalfAsked();
        people(x, people);
        if (!plan.isEmpty()) {
            plan(x, plan);
        }
        return x;
    }
}
