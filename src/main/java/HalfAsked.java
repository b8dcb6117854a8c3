/**
 * Half to whoever asks: people with pence who must give to whoever asks them, plans of askings, and
 * what can be said of them. The document ../shared/DOC.md says what each call promises.
 */
public final class HalfAsked {
    public static final int BAD = -1, NOT = -2, FULL = -3, NONE = -4, NULL = -11, CAST = -12, INDEX = -13, SIZE = -14;

    private static final int PLACES = 5;
    private static final int PENCE_SET = 9999;
    private static final int PENCE_TOLD = 99999;
    private static final int PLAN_PLACES = 8;
    private static final int ORDER_PLACES = 6;
    private static final int WHO_PLACES = 3;
    private static final int TAPE_PLACES = 80;
    private static final int SHEETS = 4;
    private static final int LANES = 3;
    private static final int SHEET_PLACES = 24;
    private static final int TIMES_OVER = 3;
    private static final int NOBODY = 9;
    private static final int FAULT = -20;
    private static final int FINE = 0;

    private final Folk folk = new Folk();
    private final Plan plan = new Plan();
    private final Tape tape = new Tape();
    private final Folk keptFolk = new Folk();
    private final Plan keptPlan = new Plan();
    private boolean kept = false;
    private final Sheet[] sheets = new Sheet[SHEETS];
    // What is made once here is used again by every call: no call but sheet() makes anything.
    private final Folk trialFolk = new Folk();
    private final Plan trialPlan = new Plan();
    private final long[] shares = new long[PLACES];
    private final Timing timing = new Timing();
    private final Turns turning = new Turns();
    private final Orders orders = new Orders();
    private final Saturdays saturdays = new Saturdays();
    // What the searches have found is kept until something changes, as calls ask for it bit by bit.
    private int timedFor = NOBODY;
    private boolean turned = false;
    private boolean ordered = false;

    public HalfAsked() {
    }

    // ---- 1 people, askings

    public int person(int kind, int pence) {
        if (kind < Folk.FREE || kind > Folk.WIDOW || !isSum(pence)) {
            return BAD;
        }
        if (folk.size >= PLACES) {
            return FULL;
        }
        forgetFound();
        folk.add(kind, pence);
        return folk.size - 1;
    }

    public int set(int person, int v) {
        if (!folk.has(person) || !isSum(v)) {
            return BAD;
        }
        forgetFound();
        int before = folk.pence[person];
        folk.pence[person] = v;
        return before;
    }

    public int told(int person, int what) {
        if (!folk.has(person)) {
            return BAD;
        }
        switch (what) {
            case 0:
                return folk.kind[person];
            case 1:
                return folk.pence[person];
            case 2:
                return folk.gives(person);
            case 3:
                return folk.others(folk.known, person);
            case 4:
                return folk.others(folk.asked, person);
            default:
                return BAD;
        }
    }

    public int knows(int a, int b, boolean is) {
        if (!folk.isPair(a, b)) {
            return BAD;
        }
        forgetFound();
        int pair = Folk.pair(a, b);
        int before = (folk.known & pair) != 0 ? 1 : 0;
        folk.known = is ? folk.known | pair : folk.known & ~pair;
        return before;
    }

    public int ask(int a, int b) {
        if (!folk.isPair(a, b)) {
            return BAD;
        }
        forgetFound();
        return folk.tryAsking(a, b);
    }

    public int week() {
        forgetFound();
        int askings = folk.askings();
        folk.asked = 0;
        return askings;
    }

    public int type(long w, int n) {
        if (n < 1 || n > 8 || !Tape.areSigns(w, n)) {
            return BAD;
        }
        if (tape.size + n > TAPE_PLACES) {
            return FULL;
        }
        tape.add(w, n);
        return tape.size;
    }

    public int people() {
        int answer = tape.readFolk(trialFolk);
        tape.size = 0;
        if (answer > 0) {
            forgetFound();
            folk.takeFrom(trialFolk);
            plan.clear();
        }
        return answer;
    }

    public int plan() {
        int answer = tape.readPlan(trialPlan, folk.size);
        tape.size = 0;
        if (answer > 0) {
            forgetFound();
            plan.takeFrom(trialPlan);
        }
        return answer;
    }

    public int count(int what) {
        switch (what) {
            case 0:
                return folk.size;
            case 1:
                return folk.penceOfAll();
            case 2:
                return folk.askings();
            case 3:
                return plan.size;
            case 4:
                return Integer.bitCount(plan.ends);
            default:
                return BAD;
        }
    }

    // ---- 2 plans

    public int run() {
        forgetFound();
        int done = 0;
        while (done < plan.size && folk.tryAsking(plan.by[done], plan.of[done]) != NOT) {
            plan.endWeekIfDue(folk, done);
            done++;
        }
        return done;
    }

    public int most(int person) {
        if (!folk.has(person)) {
            return BAD;
        }
        findTimes(person);
        return timing.most;
    }

    public int when(int person, int other) {
        if (!folk.isPair(person, other)) {
            return BAD;
        }
        findTimes(person);
        return timing.timeFor(other);
    }

    public int turns(int person) {
        if (!folk.has(person)) {
            return BAD;
        }
        findTurns();
        return turning.picked[0][person];
    }

    public int ends(int person) {
        if (!folk.has(person)) {
            return BAD;
        }
        findTurns();
        return turning.ended[0][person];
    }

    // ---- 3 orders, weeks over and over, Saturdays

    public int order(int i) {
        if (i < -1 || i >= ORDER_PLACES) {
            return BAD;
        }
        if (plan.size > ORDER_PLACES) {
            return FULL;
        }
        if (folk.size == 0 || i >= plan.size) {
            return NONE;
        }
        if (!ordered) {
            orders.search(folk, plan, 0, 0);
            ordered = true;
        }
        return i < 0 ? orders.leastSpan : orders.first[i];
    }

    public int so(int set, int pence) {
        if (set <= 0 || set >= 1 << folk.size || pence < 0 || pence > PENCE_TOLD) {
            return BAD;
        }
        if (plan.size > ORDER_PLACES) {
            return FULL;
        }
        orders.search(folk, plan, set, pence);
        ordered = true;
        return orders.fitting;
    }

    public long exact(int person, int n, int part) {
        if (!folk.has(person) || n < 1 || n > TIMES_OVER || part < 0 || part > 1) {
            return BAD;
        }
        int halvings = PLAN_PLACES * TIMES_OVER;
        shareOut(n, halvings);
        long above = shares[person];
        long below = 1L << halvings;
        for (int i = 0; i < halvings && above % 2 == 0; i++) {
            above /= 2;
            below /= 2;
        }
        return part == 0 ? above : below;
    }

    public int shun(int person) {
        if (!folk.has(person)) {
            return BAD;
        }
        int most = penceWithout(NOBODY, person);
        int whom = NOBODY;
        for (int other = 0; other < folk.size; other++) {
            int has = other == person ? most : penceWithout(other, person);
            if (has > most) {
                most = has;
                whom = other;
            }
        }
        return whom;
    }

    public int image() {
        keptFolk.takeFrom(folk);
        keptPlan.takeFrom(plan);
        kept = true;
        return 1;
    }

    public int restore() {
        if (!kept) {
            return NONE;
        }
        forgetFound();
        folk.takeFrom(keptFolk);
        plan.takeFrom(keptPlan);
        return 1;
    }

    // ---- 4 sheets

    public int who(int sheet, int lane, int from, int k, int i) {
        if (!isSheet(sheet) || !isLane(lane) || k < 1 || k > WHO_PLACES || i < -1 || i >= k) {
            return BAD;
        }
        Sheet held = sheets[sheet];
        if (held == null) {
            return NULL;
        }
        int found = held.lookAt(lane, from, 2 * folk.size);
        if (found != FINE) {
            return found;
        }
        if (!held.areTold(from, 2 * folk.size)) {
            return NOT;
        }
        saturdays.search(folk, held, from, k);
        if (saturdays.rows == 0) {
            return NONE;
        }
        return i < 0 ? saturdays.rows : saturdays.first[i];
    }

    public int sheet(int sheet, int lane, int n) {
        if (!isSheet(sheet) || !isLane(lane) || n > SHEET_PLACES) {
            return BAD;
        }
        if (n < 0) {
            return SIZE;
        }
        sheets[sheet] = new Sheet(lane, n);
        return n;
    }

    public int drop(int sheet) {
        if (!isSheet(sheet)) {
            return BAD;
        }
        Sheet held = sheets[sheet];
        if (held == null) {
            return NULL;
        }
        sheets[sheet] = null;
        return held.items.length;
    }

    public int item(int sheet, int lane, int i, long v) {
        if (!isSheet(sheet) || !isLane(lane)) {
            return BAD;
        }
        Sheet held = sheets[sheet];
        if (held == null) {
            return NULL;
        }
        int found = held.lookAt(lane, i, 1);
        if (found != FINE) {
            return found;
        }
        held.put(i, v);
        return 1;
    }

    public int film(int sheet, int lane, int from) {
        if (!isSheet(sheet) || !isLane(lane)) {
            return BAD;
        }
        Sheet held = sheets[sheet];
        if (held == null) {
            return NULL;
        }
        int found = held.lookAt(lane, from, folk.size);
        if (found != FINE) {
            return found;
        }
        for (int who = 0; who < folk.size; who++) {
            held.put(from + who, folk.pence[who]);
        }
        return folk.size;
    }

    public int copy(int from, int i, int to, int j, int n) {
        if (!isSheet(from) || !isSheet(to)) {
            return BAD;
        }
        Sheet source = sheets[from];
        Sheet target = sheets[to];
        if (source == null || target == null) {
            return NULL;
        }
        if (source.lane != target.lane) {
            return CAST;
        }
        if (!source.reaches(i, n) || !target.reaches(j, n)) {
            return INDEX;
        }
        System.arraycopy(source.items, i, target.items, j, n);
        return n;
    }

    // ---- what the calls share

    private static boolean isSum(int pence) {
        return pence >= 0 && pence <= PENCE_SET;
    }

    private static boolean isSheet(int sheet) {
        return sheet >= 0 && sheet < SHEETS;
    }

    private static boolean isLane(int lane) {
        return lane >= 0 && lane < LANES;
    }

    private void forgetFound() {
        timedFor = NOBODY;
        turned = false;
        ordered = false;
    }

    private void findTimes(int person) {
        if (timedFor != person) {
            timing.search(folk, plan, person);
            timedFor = person;
        }
    }

    private void findTurns() {
        if (!turned) {
            turning.search(folk);
            turned = true;
        }
    }

    /** The plan's askings n times over by halves, counted in parts so small that none is ever odd. */
    private void shareOut(int n, int halvings) {
        for (int who = 0; who < folk.size; who++) {
            shares[who] = (long) folk.pence[who] << halvings;
        }
        for (int time = 0; time < n; time++) {
            for (int i = 0; i < plan.size; i++) {
                int by = plan.by[i];
                int of = plan.of[i];
                if ((folk.known & Folk.pair(by, of)) != 0) {
                    shares[of] /= 2;
                    shares[by] += shares[of];
                }
            }
        }
    }

    /** Pence of one behind the plan, gone without askings of him by another one. */
    private int penceWithout(int other, int person) {
        Folk state = trialFolk;
        state.takeFrom(folk);
        for (int i = 0; i < plan.size; i++) {
            if (plan.by[i] == other && plan.of[i] == person) {
                plan.endWeekIfDue(state, i);
            } else {
                plan.goOn(state, i);
            }
        }
        return state.pence[person];
    }

    /** People, what they have, whom they know, and who has asked whom in this week. */
    private static final class Folk {
        static final int FREE = 0;
        static final int CLOSE = 1;
        static final int THIRD = 2;
        static final int WIDOW = 3;
        static final int WIDOW_KEEPS = 9;
        // Every bit of pair(a, b) but those of one alike.
        static final int ALL_PAIRS = 0x1FFFFFF & ~0x1041041;

        int size = 0;
        int known = ALL_PAIRS;
        int asked = 0;
        final int[] kind = new int[PLACES];
        final int[] pence = new int[PLACES];

        static Folk[] newRow(int length) {
            Folk[] row = new Folk[Math.max(0, length)];
            for (int i = 0; i < row.length; i++) {
                row[i] = new Folk();
            }
            return row;
        }

        static int pair(int a, int b) {
            return 1 << (PLACES * a + b);
        }

        void clear() {
            size = 0;
            known = ALL_PAIRS;
            asked = 0;
        }

        void takeFrom(Folk other) {
            size = other.size;
            known = other.known;
            asked = other.asked;
            System.arraycopy(other.kind, 0, kind, 0, PLACES);
            System.arraycopy(other.pence, 0, pence, 0, PLACES);
        }

        void add(int newKind, int newPence) {
            if (size < PLACES) {
                kind[size] = newKind;
                pence[size] = newPence;
                size++;
            }
        }

        boolean has(int who) {
            return who >= 0 && who < size;
        }

        boolean isPair(int a, int b) {
            return has(a) && has(b) && a != b;
        }

        /** Of one's row in a set of pairs: those who are there. */
        int others(int pairs, int who) {
            return (pairs >> (PLACES * who)) & ((1 << size) - 1);
        }

        int askings() {
            return Integer.bitCount(asked);
        }

        int penceOfAll() {
            int sum = 0;
            for (int who = 0; who < size; who++) {
                sum += pence[who];
            }
            return sum;
        }

        int gives(int who) {
            int has = pence[who];
            switch (kind[who]) {
                case CLOSE:
                    return has / 2;
                case THIRD:
                    return has / 3;
                case WIDOW:
                    return has > WIDOW_KEEPS ? has - WIDOW_KEEPS : 0;
                default:
                    return has - has / 2;
            }
        }

        /** An asking: what is given, or NOT if it is not lawful, and so not done. */
        int tryAsking(int a, int b) {
            int pair = pair(a, b);
            if ((known & pair) == 0 || (asked & pair) != 0 || pence[b] <= 0) {
                return NOT;
            }
            int given = gives(b);
            pence[b] -= given;
            pence[a] += given;
            asked |= pair;
            return given;
        }
    }

    /** A row of askings, behind each of which a week may end. */
    private static final class Plan {
        int size = 0;
        int ends = 0;
        final int[] by = new int[PLAN_PLACES];
        final int[] of = new int[PLAN_PLACES];

        void clear() {
            size = 0;
            ends = 0;
        }

        void takeFrom(Plan other) {
            size = other.size;
            ends = other.ends;
            System.arraycopy(other.by, 0, by, 0, PLAN_PLACES);
            System.arraycopy(other.of, 0, of, 0, PLAN_PLACES);
        }

        void add(int a, int b) {
            if (size < PLAN_PLACES) {
                by[size] = a;
                of[size] = b;
                size++;
            }
        }

        /** The i-th asking, left out if it is not lawful, and the end of a week behind it. */
        void goOn(Folk state, int i) {
            state.tryAsking(by[i], of[i]);
            endWeekIfDue(state, i);
        }

        boolean endsWeek(int i) {
            return (ends & (1 << i)) != 0;
        }

        void endWeekIfDue(Folk state, int i) {
            if (endsWeek(i)) {
                state.asked = 0;
            }
        }
    }

    /** Typed signs, read as people or as a plan; what is read answers how many, or a fault. */
    private static final class Tape {
        static final String KINDS = "fctw";
        static final char END = 0;
        static final char BLANK = ' ';
        static final char LAST_SIGN = '~';

        int size = 0;
        private int at = 0;
        private final char[] signs = new char[TAPE_PLACES];

        static boolean areSigns(long w, int n) {
            for (int i = 0; i < n; i++) {
                long sign = (w >> (8 * i)) & 255;
                if (sign < BLANK || sign > LAST_SIGN) {
                    return false;
                }
            }
            return true;
        }

        void add(long w, int n) {
            for (int i = n - 1; i >= 0 && size < TAPE_PLACES; i--) {
                signs[size] = (char) ((w >> (8 * i)) & 255);
                size++;
            }
        }

        int readFolk(Folk folk) {
            folk.clear();
            at = 0;
            for (int more = PLACES - 1; more >= 0; more--) {
                int kind = KINDS.indexOf(look());
                if (kind < 0) {
                    return fault(at);
                }
                at++;
                skipBlanks();
                int start = at;
                int pence = readNumber();
                if (pence < 0 || pence > PENCE_SET) {
                    return fault(start);
                }
                folk.add(kind, pence);
                char next = look();
                if (next == END) {
                    return folk.size;
                }
                if (next != ',' || more == 0) {
                    return fault(at);
                }
                at++;
            }
            return fault(at);
        }

        int readPlan(Plan plan, int people) {
            plan.clear();
            at = 0;
            for (int more = PLAN_PLACES - 1; more >= 0; more--) {
                if (!readAsking(plan, people)) {
                    return fault(at);
                }
                char next = look();
                if (next == ';') {
                    plan.ends |= 1 << (plan.size - 1);
                    at++;
                }
                if (look() == END) {
                    return plan.size;
                }
                if (more == 0 || (next != ',' && next != ';')) {
                    return fault(at);
                }
                if (next == ',') {
                    at++;
                }
            }
            return fault(at);
        }

        /** Whether an asking stands here; if not, the first sign that can't stand is where reading stopped. */
        private boolean readAsking(Plan plan, int people) {
            int by = look() - '0';
            if (by < 0 || by >= people) {
                return false;
            }
            at++;
            if (look() != '>') {
                return false;
            }
            at++;
            int of = look() - '0';
            if (of < 0 || of >= people || of == by) {
                return false;
            }
            at++;
            plan.add(by, of);
            return true;
        }

        /** The number that begins just here (-1: none), or of a number too great one that is too great. */
        private int readNumber() {
            int number = -1;
            while (at < size && signs[at] >= '0' && signs[at] <= '9') {
                number = Math.min(Math.max(number, 0) * 10 + signs[at] - '0', PENCE_SET + 1);
                at++;
            }
            return number;
        }

        /** The next sign that is no blank, which is not passed. */
        private char look() {
            skipBlanks();
            return at < size ? signs[at] : END;
        }

        private void skipBlanks() {
            while (at < size && signs[at] == BLANK) {
                at++;
            }
        }

        private static int fault(int place) {
            return FAULT - place;
        }
    }

    /** A row of items, each as its lane can hold it. */
    private static final class Sheet {
        static final int BYTES = 0;
        static final int INTS = 1;

        final int lane;
        final long[] items;

        Sheet(int lane, int n) {
            this.lane = lane;
            this.items = new long[Math.max(0, Math.min(n, SHEET_PLACES))];
        }

        boolean reaches(int from, int n) {
            return n >= 0 && from >= 0 && from <= items.length && n <= items.length - from;
        }

        /** What the machine finds in taking n items of this as of a row of a lane: FINE or a refusal. */
        int lookAt(int asLane, int from, int n) {
            if (lane != asLane) {
                return CAST;
            }
            return reaches(from, n) ? FINE : INDEX;
        }

        void put(int i, long v) {
            switch (lane) {
                case BYTES:
                    items[i] = (byte) v;
                    break;
                case INTS:
                    items[i] = (int) v;
                    break;
                default:
                    items[i] = v;
                    break;
            }
        }

        boolean areTold(int from, int n) {
            for (int i = from; i < from + n; i++) {
                if (items[i] < 0 || items[i] > PENCE_TOLD) {
                    return false;
                }
            }
            return true;
        }
    }

    /** When one should ask the others while the plan goes, so as to end with most. */
    private static final class Timing {
        // A way is its row of times as digits, so that the first of two rows is the lesser number.
        private static final int[] WEIGHT = {10000, 1000, 100, 10, 1};
        private static final int ALL = (1 << PLACES) - 1;

        int most = 0;
        private int way = 0;
        private int asker = 0;
        private final Plan plan = new Plan();
        // How all stand as each time comes.
        private final Folk[] states = Folk.newRow(PLAN_PLACES + 1);

        void search(Folk now, Plan told, int person) {
            asker = person;
            most = -1;
            way = 0;
            plan.takeFrom(told);
            states[0].takeFrom(now);
            choose(0, ((1 << now.size) - 1) & ~(1 << person), 0);
        }

        int timeFor(int other) {
            return way / WEIGHT[other] % 10;
        }

        /** Tries whom of those left to ask at a time, and all that can follow. */
        private void choose(int time, int left, int chosen) {
            if (time >= plan.size || time + 1 >= states.length) {
                // Behind all, to ask takes nothing from him, and any time is ahead of never: he asks all.
                int last = chosen + askAll(states[time], left, time);
                keepBetter(states[time].pence[asker], last);
                return;
            }
            Folk next = states[time + 1];
            int open = left & worthAsking(time);
            // A number up to open is a set of these if it has no other bits.
            for (int some = 0; some <= open; some++) {
                if ((some & ~open) == 0) {
                    next.takeFrom(states[time]);
                    int more = askAll(next, some, time);
                    plan.goOn(next, time);
                    choose(time + 1, left & ~some, chosen + more);
                }
            }
        }

        /**
         * Whom to ask at a time may be other than to ask them at the time before: if the plan's asking
         * between neither touches one nor takes from the asker, nor ends a week, the earlier time does
         * the same and comes first.
         */
        private int worthAsking(int time) {
            int step = time - 1;
            if (step < 0 || plan.endsWeek(step) || plan.of[step] == asker) {
                return ALL;
            }
            return (1 << plan.by[step]) | (1 << plan.of[step]);
        }

        /** Asks all of a set by their numbers; answers what that adds to the way. */
        private int askAll(Folk state, int some, int time) {
            int added = 0;
            for (int other = 0; other < state.size; other++) {
                if ((some & (1 << other)) != 0) {
                    state.tryAsking(asker, other);
                    added += time * WEIGHT[other];
                }
            }
            return added;
        }

        private void keepBetter(int has, int found) {
            if (has > most || (has == most && found < way)) {
                most = has;
                way = found;
            }
        }
    }

    /** All by turns, each for himself, found from the last one back. */
    private static final class Turns {
        // Rows t: whom each from t on asks, and what all have in the end, as turn t begins.
        final int[][] picked = new int[PLACES + 1][PLACES];
        final int[][] ended = new int[PLACES + 1][PLACES];
        private final Folk[] states = Folk.newRow(PLACES + 1);

        void search(Folk now) {
            states[0].takeFrom(now);
            settle(0);
        }

        private void settle(int turn) {
            Folk state = states[turn];
            if (turn >= state.size || turn >= PLACES) {
                System.arraycopy(state.pence, 0, ended[turn], 0, PLACES);
                return;
            }
            Folk next = states[turn + 1];
            next.takeFrom(state);
            settle(turn + 1);
            keep(turn, NOBODY);
            for (int other = 0; other < state.size; other++) {
                next.takeFrom(state);
                if (other != turn && next.tryAsking(turn, other) != NOT) {
                    settle(turn + 1);
                    if (ended[turn + 1][turn] > ended[turn][turn]) {
                        keep(turn, other);
                    }
                }
            }
        }

        private void keep(int turn, int whom) {
            System.arraycopy(picked[turn + 1], 0, picked[turn], 0, PLACES);
            System.arraycopy(ended[turn + 1], 0, ended[turn], 0, PLACES);
            picked[turn][turn] = whom;
        }
    }

    /** The plan's askings in every order, within one week. */
    private static final class Orders {
        int leastSpan = -1;
        int fitting = 0;
        final int[] first = new int[ORDER_PLACES];
        private final int[] row = new int[ORDER_PLACES];
        private int wanted = 0;
        private int wantedPence = 0;
        private final Plan plan = new Plan();
        private final Folk[] states = Folk.newRow(ORDER_PLACES + 1);

        /** Finds the order by which all are most alike, and how many orders fit a set and its pence. */
        void search(Folk now, Plan told, int set, int pence) {
            plan.takeFrom(told);
            wanted = set;
            wantedPence = pence;
            leastSpan = -1;
            fitting = 0;
            states[0].takeFrom(now);
            extend(0, 0);
        }

        private void extend(int depth, int used) {
            if (depth >= plan.size || depth >= ORDER_PLACES) {
                weigh(states[depth]);
                return;
            }
            Folk next = states[depth + 1];
            for (int place = 0; place < plan.size; place++) {
                if ((used & (1 << place)) == 0) {
                    row[depth] = place;
                    next.takeFrom(states[depth]);
                    next.tryAsking(plan.by[place], plan.of[place]);
                    extend(depth + 1, used | (1 << place));
                }
            }
        }

        private void weigh(Folk end) {
            int fewest = end.pence[0];
            int most = end.pence[0];
            boolean fits = true;
            for (int who = 0; who < end.size; who++) {
                fewest = Math.min(fewest, end.pence[who]);
                most = Math.max(most, end.pence[who]);
                fits = fits && ((wanted & (1 << who)) == 0 || end.pence[who] == wantedPence);
            }
            if (fits) {
                fitting++;
            }
            if (leastSpan < 0 || most - fewest < leastSpan) {
                leastSpan = most - fewest;
                System.arraycopy(row, 0, first, 0, ORDER_PLACES);
            }
        }
    }

    /** Who asked whom, from what all had on two Saturdays. */
    private static final class Saturdays {
        int rows = 0;
        final int[] first = new int[WHO_PLACES];
        private final int[] row = new int[WHO_PLACES];
        private final int[] goal = new int[PLACES];
        private int length = 0;
        private final Folk[] states = Folk.newRow(WHO_PLACES + 1);

        /** The items from one on are what all had at first and, behind them, at last; they are there. */
        void search(Folk now, Sheet sheet, int from, int k) {
            rows = 0;
            length = k;
            Folk start = states[0];
            start.takeFrom(now);
            start.asked = 0;
            for (int who = 0; who < start.size; who++) {
                start.pence[who] = (int) sheet.items[from + who];
                goal[who] = (int) sheet.items[from + start.size + who];
            }
            trace(0);
        }

        private void trace(int depth) {
            Folk state = states[depth];
            int unlike = unlike(state);
            if (depth >= length || depth >= WHO_PLACES) {
                if (unlike == 0) {
                    keep();
                }
                return;
            }
            // An asking changes what two have: more than those yet to come can change is in vain.
            if (unlike > 2 * (length - depth)) {
                return;
            }
            Folk next = states[depth + 1];
            for (int a = 0; a < state.size; a++) {
                for (int b = 0; b < state.size; b++) {
                    next.takeFrom(state);
                    if (a != b && next.tryAsking(a, b) != NOT) {
                        row[depth] = 10 * a + b;
                        trace(depth + 1);
                    }
                }
            }
        }

        private int unlike(Folk state) {
            int unlike = 0;
            for (int who = 0; who < state.size; who++) {
                if (state.pence[who] != goal[who]) {
                    unlike++;
                }
            }
            return unlike;
        }

        /** Counts a row; rows come in their order, so the first is the one that counts as 1. */
        private void keep() {
            if (rows == 0) {
                System.arraycopy(row, 0, first, 0, WHO_PLACES);
            }
            rows++;
        }
    }
}
