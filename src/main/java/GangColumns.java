import java.util.Arrays;

/**
 * A row of 16 columns on which jobs of several arms run, all arms of a job at once: a line, promises,
 * kept spans, accounts, thoughts of what would be, and an image. What it must do is told in DOC.md.
 */
public final class GangColumns {
    public static final int BAD = -1, NOT = -2, FULL = -3, STATE = -5;

    private static final int NONE = -1;
    private static final int COLUMNS = 16, ALL_COLUMNS = 0xFFFF;
    private static final int ACCOUNTS = 8, JOBS = 80, ARMS = 4, SPANS = 12;
    private static final int MOST_WIDE = 16, MOST_ASKS = 200, MOST_PART = 150, MOST_RANK = 9;
    private static final int LAST_TICK = 99999, MOST_STEPS = 100, THOUGHT_TICKS = 300;
    private static final int PROMISE_REACH = 20000, SPAN_REACH = 30000;
    private static final int FAULT = -100;

    private static final int WAITING = 0, RUNNING = 1, DONE = 2, CUT = 3, OFF = 4;
    // The EVENTS 2, 3, 4 bear the numbers of how the JOB is then.
    private static final int EVENT_CAME = 0, EVENT_STARTED = 1, EVENT_PROMISED = 5;
    private static final int DEPTH = 0, WINDOW = 1, PERIOD = 2;
    // The numbers of led(); 1, 2, 3 are how many became DONE, CUT, OFF: one less than these.
    private static final int LED_STARTED = 0, LED_LEAPT = 4, LED_WAITED = 5, LED_IDLE = 6, LED_PASSES = 7;

    private final Scene scene = new Scene(false);
    private final Scene imaged = new Scene(false);
    private final Scheduler scheduler = new Scheduler();
    private final Thoughts thoughts = new Thoughts();
    private final Tape tape = new Tape();
    private final Gang told = new Gang();
    private final Line lineNow = new Line();
    private final StringBuilder words = new StringBuilder();

    public GangColumns() {
    }

    // ---- accounts, rules

    public int weight(int account, int w) {
        if (!isAccount(account) || w < 1 || w > 100) {
            return BAD;
        }
        int was = scene.weights[account];
        scene.weights[account] = w;
        return was;
    }

    public int limit(int account, int n) {
        if (!isAccount(account) || n < 0 || n > COLUMNS) {
            return BAD;
        }
        int was = scene.limits[account];
        scene.limits[account] = n;
        return was;
    }

    public int ranked(int i) {
        return isAccount(i) ? scene.accountAt(i) : BAD;
    }

    public int rule(int what, int v) {
        if (!isRule(what, v)) {
            return BAD;
        }
        int was = scene.rules[what];
        scene.rules[what] = v;
        return was;
    }

    public long used(int account) {
        return isAccount(account) ? scene.uses[account] : BAD;
    }

    // ---- jobs

    public int feed(int letter) {
        if (letter < 32 || letter > 126) {
            return BAD;
        }
        return tape.put(letter) ? tape.size : FULL;
    }

    public int job(int account, int rank, int part, int after) {
        if (!isAccount(account) || !isRank(rank) || part < 1 || part > MOST_PART) {
            return BAD;
        }
        if (after != NONE && !isJob(after)) {
            return BAD;
        }
        if (scene.jobs.size >= JOBS) {
            return FULL;
        }
        if (after != NONE && scene.jobs.state[after] == OFF) {
            return STATE;
        }
        int fault = tape.read(told);
        return fault == NONE ? scene.addJob(told, account, rank, part, after) : FAULT - fault;
    }

    public int off(int job) {
        if (!isJob(job)) {
            return BAD;
        }
        int state = scene.jobs.state[job];
        return state == WAITING || state == RUNNING ? scheduler.takeOff(scene, job) : STATE;
    }

    public int of(int job, int what) {
        if (!isJob(job)) {
            return BAD;
        }
        Jobs jobs = scene.jobs;
        switch (what) {
            case 0: return jobs.state[job];
            case 1: return jobs.account[job];
            case 2: return jobs.rank[job];
            case 3: return jobs.part[job];
            case 4: return jobs.after[job];
            case 5: return jobs.arms[job];
            case 6: return orNot(jobs.start[job]);
            case 7: return orNot(jobs.ended[job]);
            case 8: return orNot(jobs.firstPromise[job]);
            case 9: return orNot(jobs.promise[job]);
            case 10: return jobs.columns[job];
            default: return BAD;
        }
    }

    public int arm(int job, int arm, int what) {
        if (!isJob(job) || arm < 0 || arm >= scene.jobs.arms[job]) {
            return BAD;
        }
        int at = job * ARMS + arm;
        switch (what) {
            case 0: return scene.arms.wide[at];
            case 1: return scene.arms.asks[at];
            case 2: return scene.lasts(at);
            case 3: return orNot(scene.arms.column[at]);
            case 4: return orNot(scene.arms.end[at]);
            default: return BAD;
        }
    }

    public int line(int i) {
        if (i < -1) {
            return BAD;
        }
        lineNow.form(scene);
        return listed(lineNow.order, lineNow.size, i);
    }

    public int rank(int job, int r) {
        if (!isJob(job) || !isRank(r)) {
            return BAD;
        }
        if (!isWaiting(job)) {
            return STATE;
        }
        int was = scene.jobs.rank[job];
        scene.jobs.rank[job] = r;
        return was;
    }

    public int hold(int job, int back) {
        if (!isJob(job) || back < 0 || back > 1) {
            return BAD;
        }
        if (!isWaiting(job)) {
            return STATE;
        }
        int was = scene.jobs.heldBack[job];
        scene.jobs.heldBack[job] = back;
        if (back == 1) {
            scene.jobs.promise[job] = NONE;
        }
        return was;
    }

    public int text(int job, int i) {
        if (!isJob(job) || i < -1) {
            return BAD;
        }
        scene.tell(job, words);
        if (i < 0) {
            return words.length();
        }
        return i < words.length() ? words.charAt(i) : NOT;
    }

    // ---- spans

    public int keep(int ab, int from, int to, int account) {
        if (!isSpan(ab, from, to, account)) {
            return BAD;
        }
        if (scene.spans.size >= SPANS) {
            return FULL;
        }
        int mask = maskOf(ab / 100, ab % 100 - ab / 100 + 1);
        return scene.isKept(mask, from, to) ? STATE : scene.spans.add(mask, from, to, account);
    }

    public int every(int ab, int from, int len, int apart, int n, int account) {
        if (n < 1 || n > 6 || len < 1 || apart < len) {
            return BAD;
        }
        if (!isSpan(ab, from, (long) from + (long) apart * (n - 1) + len, account)) {
            return BAD;
        }
        if (scene.spans.size + n > SPANS) {
            return FULL;
        }
        int mask = maskOf(ab / 100, ab % 100 - ab / 100 + 1);
        for (int k = 0; k < n; k++) {
            if (scene.isKept(mask, from + k * apart, from + k * apart + len)) {
                return STATE;
            }
        }
        int first = scene.spans.next;
        for (int k = 0; k < n; k++) {
            scene.spans.add(mask, from + k * apart, from + k * apart + len, account);
        }
        return first;
    }

    public int free(int span) {
        return scene.spans.drop(span) ? scene.spans.size : BAD;
    }

    // ---- ticks

    public int step(int n) {
        if (n < 1 || n > MOST_STEPS) {
            return BAD;
        }
        if (scene.now + n > LAST_TICK) {
            return FULL;
        }
        for (int i = 0; i < n; i++) {
            scheduler.goTick(scene);
        }
        return scene.now;
    }

    public int pass() {
        return scheduler.goPass(scene);
    }

    public int holder(int column) {
        return isColumn(column) ? orNot(scene.arms.jobOn(column)) : BAD;
    }

    public int promised(int column, int tick) {
        if (!isColumn(column) || tick < scene.now) {
            return BAD;
        }
        return orNot(scene.promisedTo(column, tick));
    }

    // ---- in thought

    public int foretell(int job) {
        if (!isJob(job)) {
            return BAD;
        }
        return isWaiting(job) ? orNot(thoughts.startOf(scene, job)) : STATE;
    }

    public int plan(int i) {
        if (i < -1) {
            return BAD;
        }
        Book seen = thoughts.seen(scene);
        return listed(seen.startedJobs, seen.startedSize, i);
    }

    public int byRule(int rule, int v, int what) {
        if (!isRule(rule, v) || what < 0 || what > 2) {
            return BAD;
        }
        return orNot(thoughts.underRule(scene, rule, v, what));
    }

    public int shrunk(int job) {
        if (!isJob(job)) {
            return BAD;
        }
        return isWaiting(job) ? orNot(thoughts.greatestPart(scene, job)) : STATE;
    }

    public int moves(int job) {
        if (!isJob(job)) {
            return BAD;
        }
        return isWaiting(job) ? orNot(thoughts.fewestMoves(scene, job)) : STATE;
    }

    public int together(int a, int b) {
        if (!isJob(a) || !isJob(b) || a == b) {
            return BAD;
        }
        return isWaiting(a) && isWaiting(b) ? thoughts.sideBySide(scene, a, b) : STATE;
    }

    public int gap(int column, int i, int what) {
        if (!isColumn(column) || i < 0 || what < 0 || what > 1) {
            return BAD;
        }
        return orNot(thoughts.gapOf(scene, column, i, what));
    }

    public int orders(int job, int tick) {
        if (!isJob(job) || tick < scene.now || tick - scene.now > PROMISE_REACH) {
            return BAD;
        }
        return isWaiting(job) ? thoughts.goodOrders(scene, job, tick) : STATE;
    }

    public int costs(int account, int rank, int what) {
        if (!isAccount(account) || !isRank(rank) || what < 0 || what > 1) {
            return BAD;
        }
        if (scene.jobs.size >= JOBS) {
            return FULL;
        }
        int fault = tape.read(told);
        if (fault != NONE) {
            return FAULT - fault;
        }
        if (what == 0) {
            return orNot(thoughts.startOfNew(scene, told, account, rank));
        }
        return thoughts.delayByNew(scene, told, account, rank);
    }

    public int earliest(int account) {
        if (!isAccount(account)) {
            return BAD;
        }
        int fault = tape.read(told);
        return fault == NONE ? orNot(thoughts.firstTick(scene, told, account)) : FAULT - fault;
    }

    public int holes(int tick, int n, int what) {
        if (tick < scene.now || n < 1 || n > 500 || what < 0 || what > 1) {
            return BAD;
        }
        int open = thoughts.openColumns(scene, tick, n);
        return what == 0 ? Integer.bitCount(open) : longestRun(open);
    }

    // ---- numbers

    public long led(int what) {
        return what < 0 || what > LED_PASSES ? BAD : scene.book.figures[what];
    }

    public int chart(int column, int back) {
        if (!isColumn(column) || back < 1 || back > Book.CHARTED) {
            return BAD;
        }
        return back > scene.now ? NOT : orNot(scene.book.charted(column, scene.now - back));
    }

    public int event(int i, int what) {
        if (i < 0 || what < 0 || what > 2) {
            return BAD;
        }
        return scene.book.eventAt(i, what);
    }

    public int started(int i) {
        return i < 0 ? BAD : listed(scene.book.startedJobs, scene.book.startedSize, i);
    }

    public int image() {
        imaged.copyAll(scene);
        return scene.now;
    }

    public int back() {
        scene.copyAll(imaged);
        return scene.now;
    }

    public int count(int what) {
        switch (what) {
            case 0: return scene.jobs.size;
            case 1: return scene.jobs.countIn(WAITING);
            case 2: return scene.jobs.countIn(RUNNING);
            case 3: return scene.spans.size;
            case 4: return COLUMNS - scene.arms.idleColumns();
            case 5: return tape.size;
            case 6: return scene.jobs.countPromises();
            case 7: return scene.now;
            default: return BAD;
        }
    }

    // ---- what may be asked

    private static boolean isAccount(int account) {
        return account >= 0 && account < ACCOUNTS;
    }

    private static boolean isRank(int rank) {
        return rank >= 0 && rank <= MOST_RANK;
    }

    private static boolean isColumn(int column) {
        return column >= 0 && column < COLUMNS;
    }

    private static boolean isRule(int what, int v) {
        switch (what) {
            case DEPTH: return v >= 0 && v <= 4;
            case WINDOW: return v >= 0 && v <= JOBS;
            case PERIOD: return v >= 0 && v <= 100;
            default: return false;
        }
    }

    private boolean isJob(int job) {
        return job >= 0 && job < scene.jobs.size;
    }

    private boolean isWaiting(int job) {
        return scene.jobs.state[job] == WAITING;
    }

    private boolean isSpan(int ab, int from, long to, int account) {
        if (ab < 0 || ab % 100 >= COLUMNS || ab / 100 > ab % 100) {
            return false;
        }
        if (account != NONE && !isAccount(account)) {
            return false;
        }
        return from >= scene.now && to > from && to - scene.now <= SPAN_REACH;
    }

    private static int orNot(int value) {
        return value == NONE ? NOT : value;
    }

    /** The i-th of a list, or by -1 how many it has. */
    private static int listed(int[] list, int size, int i) {
        if (i < 0) {
            return size;
        }
        return i < size && i < list.length ? list[i] : NOT;
    }

    // ---- columns as the bits of a number

    private static int maskOf(int first, int wide) {
        return (1 << wide) - 1 << first;
    }

    /** The first column of the shortest run that is long enough, of like ones the first; or NONE. */
    private static int bestRun(int columns, int wide) {
        int best = NONE;
        int bestLength = COLUMNS + 1;
        int length = 0;
        for (int c = 0; c <= COLUMNS; c++) {
            if (c < COLUMNS && (columns >> c & 1) != 0) {
                length++;
                continue;
            }
            if (length >= wide && length < bestLength) {
                best = c - length;
                bestLength = length;
            }
            length = 0;
        }
        return best;
    }

    private static int longestRun(int columns) {
        int longest = 0;
        int length = 0;
        for (int c = 0; c < COLUMNS; c++) {
            length = (columns >> c & 1) != 0 ? length + 1 : 0;
            longest = Math.max(longest, length);
        }
        return longest;
    }

    /** THE TAPE. */
    private static final class Tape {
        private static final int LONGEST = 60;

        int size;
        private final int[] bytes = new int[LONGEST];
        private int at;

        boolean put(int letter) {
            if (size >= LONGEST) {
                return false;
            }
            bytes[size] = letter;
            size++;
            return true;
        }

        /** Reads the TEXT into the gang and empties the tape: the FAULT, or NONE. */
        int read(Gang gang) {
            int fault = parse(gang);
            size = 0;
            return fault;
        }

        private int parse(Gang gang) {
            gang.size = 0;
            at = 0;
            for (int i = 0; i < ARMS; i++) {
                int wideAt = at;
                int wide = number();
                if (wide < 1 || wide > MOST_WIDE) {
                    return wideAt;
                }
                if (next() != 'x') {
                    return at;
                }
                at++;
                int asksAt = at;
                int asks = number();
                if (asks < 1 || asks > MOST_ASKS) {
                    return asksAt;
                }
                gang.add(wide, asks);
                if (at == size) {
                    gang.arrange();
                    return NONE;
                }
                if (next() != ',') {
                    return at;
                }
                at++;
            }
            return at - 1;
        }

        private int next() {
            return at < size ? bytes[at] : NONE;
        }

        /** The number of up to three figures that stands here; 0 if none does. */
        private int number() {
            int value = 0;
            for (int i = 0; i < 3 && next() >= '0' && next() <= '9'; i++) {
                value = value * 10 + next() - '0';
                at++;
            }
            return value;
        }
    }

    /** The arms of one job that look for columns together. */
    private static final class Gang {
        int size;
        /** The columns that the arms found, as bits. */
        int taken;
        final int[] wide = new int[ARMS];
        final int[] asks = new int[ARMS];
        final int[] column = new int[ARMS];
        /** The arms, the widest first, of like ones as told. */
        final int[] order = new int[ARMS];

        void add(int itsWide, int itsAsks) {
            if (size < ARMS) {
                wide[size] = itsWide;
                asks[size] = itsAsks;
                size++;
            }
        }

        void load(Scene scene, int job) {
            size = 0;
            for (int a = 0; a < scene.jobs.arms[job]; a++) {
                add(scene.arms.wide[job * ARMS + a], scene.arms.asks[job * ARMS + a]);
            }
            arrange();
        }

        void arrange() {
            for (int a = 0; a < size; a++) {
                int i = a;
                while (i > 0 && wide[order[i - 1]] < wide[a]) {
                    order[i] = order[i - 1];
                    i--;
                }
                order[i] = a;
            }
        }

        int columns() {
            int sum = 0;
            for (int a = 0; a < size; a++) {
                sum += wide[a];
            }
            return sum;
        }
    }

    /** The JOBS, a row for each thing to know of them. */
    private static final class Jobs {
        int size;
        final int[] state = new int[JOBS];
        final int[] account = new int[JOBS];
        final int[] rank = new int[JOBS];
        final int[] part = new int[JOBS];
        final int[] after = new int[JOBS];
        final int[] arms = new int[JOBS];
        final int[] columns = new int[JOBS];
        final int[] heldBack = new int[JOBS];
        final int[] came = new int[JOBS];
        final int[] start = new int[JOBS];
        final int[] ended = new int[JOBS];
        final int[] firstPromise = new int[JOBS];
        final int[] promise = new int[JOBS];

        boolean isInLine(int job) {
            if (state[job] != WAITING || heldBack[job] != 0) {
                return false;
            }
            int first = after[job];
            return first == NONE || state[first] == DONE || state[first] == CUT;
        }

        /** Whether any JOB is left that TICKS to come could let START. */
        boolean anyMayStart() {
            for (int j = 0; j < size; j++) {
                if (state[j] == WAITING && heldBack[j] == 0) {
                    return true;
                }
            }
            return false;
        }

        int countIn(int wanted) {
            int n = 0;
            for (int j = 0; j < size; j++) {
                n += state[j] == wanted ? 1 : 0;
            }
            return n;
        }

        int countPromises() {
            int n = 0;
            for (int j = 0; j < size; j++) {
                n += promise[j] != NONE ? 1 : 0;
            }
            return n;
        }

        void copyFrom(Jobs other) {
            size = other.size;
            System.arraycopy(other.state, 0, state, 0, size);
            System.arraycopy(other.account, 0, account, 0, size);
            System.arraycopy(other.rank, 0, rank, 0, size);
            System.arraycopy(other.part, 0, part, 0, size);
            System.arraycopy(other.after, 0, after, 0, size);
            System.arraycopy(other.arms, 0, arms, 0, size);
            System.arraycopy(other.columns, 0, columns, 0, size);
            System.arraycopy(other.heldBack, 0, heldBack, 0, size);
            System.arraycopy(other.came, 0, came, 0, size);
            System.arraycopy(other.start, 0, start, 0, size);
            System.arraycopy(other.ended, 0, ended, 0, size);
            System.arraycopy(other.firstPromise, 0, firstPromise, 0, size);
            System.arraycopy(other.promise, 0, promise, 0, size);
        }
    }

    /** The ARMS: the one a of a JOB j stands at j * ARMS + a. */
    private static final class Arms {
        final int[] wide = new int[JOBS * ARMS];
        final int[] asks = new int[JOBS * ARMS];
        final int[] column = new int[JOBS * ARMS];
        final int[] end = new int[JOBS * ARMS];
        /** The first column that the JOB's PROMISE gives the ARM, while there is one. */
        final int[] promised = new int[JOBS * ARMS];
        /** The ARM that holds each column now, or NONE. */
        final int[] owner = new int[COLUMNS];

        Arms() {
            Arrays.fill(owner, NONE);
        }

        boolean holds(int arm) {
            return column[arm] != NONE && owner[column[arm]] == arm;
        }

        int jobOn(int c) {
            return owner[c] == NONE ? NONE : owner[c] / ARMS;
        }

        /** Who holds the columns of an ARM: itself, or NONE as it lets go. */
        void own(int arm, int who) {
            for (int c = column[arm]; c < column[arm] + wide[arm]; c++) {
                owner[c] = who;
            }
        }

        int idleColumns() {
            int n = 0;
            for (int c = 0; c < COLUMNS; c++) {
                n += owner[c] == NONE ? 1 : 0;
            }
            return n;
        }

        void copyFrom(Arms other, int jobs) {
            int n = jobs * ARMS;
            System.arraycopy(other.wide, 0, wide, 0, n);
            System.arraycopy(other.asks, 0, asks, 0, n);
            System.arraycopy(other.column, 0, column, 0, n);
            System.arraycopy(other.end, 0, end, 0, n);
            System.arraycopy(other.promised, 0, promised, 0, n);
            System.arraycopy(other.owner, 0, owner, 0, COLUMNS);
        }
    }

    /** The KEPT SPANS that are not gone. */
    private static final class Spans {
        int size;
        int next;
        final int[] number = new int[SPANS];
        final int[] mask = new int[SPANS];
        final int[] from = new int[SPANS];
        final int[] to = new int[SPANS];
        final int[] account = new int[SPANS];

        int add(int itsMask, int itsFrom, int itsTo, int itsAccount) {
            if (size >= SPANS) {
                return FULL;
            }
            number[size] = next;
            mask[size] = itsMask;
            from[size] = itsFrom;
            to[size] = itsTo;
            account[size] = itsAccount;
            size++;
            next++;
            return next - 1;
        }

        boolean overlap(int columns, int begin, int end) {
            for (int i = 0; i < size; i++) {
                if ((mask[i] & columns) != 0 && begin < to[i] && from[i] < end) {
                    return true;
                }
            }
            return false;
        }

        boolean drop(int wanted) {
            for (int i = 0; i < size; i++) {
                if (number[i] == wanted) {
                    remove(i);
                    return true;
                }
            }
            return false;
        }

        void endBy(int tick) {
            for (int i = size - 1; i >= 0; i--) {
                if (to[i] <= tick) {
                    remove(i);
                }
            }
        }

        private void remove(int at) {
            size--;
            for (int i = at; i < size; i++) {
                number[i] = number[i + 1];
                mask[i] = mask[i + 1];
                from[i] = from[i + 1];
                to[i] = to[i + 1];
                account[i] = account[i + 1];
            }
        }

        void copyFrom(Spans other) {
            size = other.size;
            next = other.next;
            System.arraycopy(other.number, 0, number, 0, size);
            System.arraycopy(other.mask, 0, mask, 0, size);
            System.arraycopy(other.from, 0, from, 0, size);
            System.arraycopy(other.to, 0, to, 0, size);
            System.arraycopy(other.account, 0, account, 0, size);
        }
    }

    /** What went by: the numbers of led(), the JOBS that STARTED, EVENTS, CHART. */
    private static final class Book {
        static final int CHARTED = 64;
        private static final int EVENTS = 60;

        int startedSize;
        final long[] figures = new long[LED_PASSES + 1];
        final int[] startedJobs = new int[JOBS];
        private int eventsKept;
        private int nextEvent;
        private final int[] eventTick = new int[EVENTS];
        private final int[] eventKind = new int[EVENTS];
        private final int[] eventJob = new int[EVENTS];
        private final int[] chartRows = new int[CHARTED * COLUMNS];

        void note(int tick, int kind, int job) {
            eventTick[nextEvent] = tick;
            eventKind[nextEvent] = kind;
            eventJob[nextEvent] = job;
            nextEvent = (nextEvent + 1) % EVENTS;
            eventsKept = Math.min(eventsKept + 1, EVENTS);
        }

        /** Of the i-th EVENT that is kept; NOT, if there are not as many. */
        int eventAt(int i, int what) {
            if (i >= eventsKept) {
                return NOT;
            }
            int at = (nextEvent + EVENTS - eventsKept + i) % EVENTS;
            if (what == 0) {
                return eventTick[at];
            }
            return what == 1 ? eventKind[at] : eventJob[at];
        }

        void addStarted(int job) {
            if (startedSize < JOBS) {
                startedJobs[startedSize] = job;
                startedSize++;
            }
        }

        int charted(int column, int tick) {
            return chartRows[tick % CHARTED * COLUMNS + column];
        }

        void chartTick(int column, int tick, int job) {
            chartRows[tick % CHARTED * COLUMNS + column] = job;
        }

        void copyFrom(Book other) {
            startedSize = other.startedSize;
            eventsKept = other.eventsKept;
            nextEvent = other.nextEvent;
            System.arraycopy(other.figures, 0, figures, 0, figures.length);
            System.arraycopy(other.startedJobs, 0, startedJobs, 0, startedSize);
            System.arraycopy(other.eventTick, 0, eventTick, 0, EVENTS);
            System.arraycopy(other.eventKind, 0, eventKind, 0, EVENTS);
            System.arraycopy(other.eventJob, 0, eventJob, 0, EVENTS);
            System.arraycopy(other.chartRows, 0, chartRows, 0, CHARTED * COLUMNS);
        }
    }

    /** All that an image keeps. */
    private static final class Scene {
        final boolean inThought;
        int now;
        final int[] weights = new int[ACCOUNTS];
        final int[] limits = new int[ACCOUNTS];
        final long[] uses = new long[ACCOUNTS];
        final int[] rules = new int[PERIOD + 1];
        final Jobs jobs = new Jobs();
        final Arms arms = new Arms();
        final Spans spans = new Spans();
        final Book book = new Book();

        Scene(boolean inThought) {
            this.inThought = inThought;
            Arrays.fill(weights, 10);
            Arrays.fill(limits, COLUMNS);
            rules[DEPTH] = 1;
            rules[WINDOW] = JOBS;
        }

        void copyAll(Scene other) {
            copyWithoutBook(other);
            book.copyFrom(other.book);
        }

        void copyWithoutBook(Scene other) {
            now = other.now;
            System.arraycopy(other.weights, 0, weights, 0, ACCOUNTS);
            System.arraycopy(other.limits, 0, limits, 0, ACCOUNTS);
            System.arraycopy(other.uses, 0, uses, 0, ACCOUNTS);
            System.arraycopy(other.rules, 0, rules, 0, rules.length);
            jobs.copyFrom(other.jobs);
            arms.copyFrom(other.arms, jobs.size);
            spans.copyFrom(other.spans);
        }

        /** USED by WEIGHT of two ACCOUNTS, compared as fractions. */
        private boolean hasLesserShare(int a, int b) {
            return uses[a] * weights[b] < uses[b] * weights[a];
        }

        /** How many ACCOUNTS have a lesser share: like shares answer alike. */
        int sharesBelow(int account) {
            int n = 0;
            for (int b = 0; b < ACCOUNTS; b++) {
                n += hasLesserShare(b, account) ? 1 : 0;
            }
            return n;
        }

        int accountAt(int place) {
            for (int a = 0; a < ACCOUNTS; a++) {
                int ahead = sharesBelow(a);
                for (int b = 0; b < a; b++) {
                    ahead += hasLesserShare(a, b) || hasLesserShare(b, a) ? 0 : 1;
                }
                if (ahead == place) {
                    return a;
                }
            }
            return NOT;
        }

        int addJob(Gang gang, int account, int rank, int part, int after) {
            int job = jobs.size;
            if (job >= JOBS) {
                return FULL;
            }
            jobs.size++;
            jobs.state[job] = WAITING;
            jobs.account[job] = account;
            jobs.rank[job] = rank;
            jobs.part[job] = part;
            jobs.after[job] = after;
            jobs.arms[job] = gang.size;
            jobs.columns[job] = gang.columns();
            jobs.heldBack[job] = 0;
            jobs.came[job] = now;
            jobs.start[job] = NONE;
            jobs.ended[job] = NONE;
            jobs.firstPromise[job] = NONE;
            jobs.promise[job] = NONE;
            for (int a = 0; a < gang.size; a++) {
                arms.wide[job * ARMS + a] = gang.wide[a];
                arms.asks[job * ARMS + a] = gang.asks[a];
                arms.column[job * ARMS + a] = NONE;
                arms.end[job * ARMS + a] = NONE;
            }
            book.note(now, EVENT_CAME, job);
            return job;
        }

        int lasts(int arm) {
            return Math.max(1, arms.asks[arm] * jobs.part[arm / ARMS] / 100);
        }

        /** To which TICK an ARM that runs is known to hold its columns. */
        int knownEnd(int arm) {
            return jobs.start[arm / ARMS] + arms.asks[arm];
        }

        int accountOfArm(int arm) {
            return jobs.account[arm / ARMS];
        }

        /** Whether a KEPT SPAN, or an ARM that runs, is in the way of a new KEPT SPAN. */
        boolean isKept(int columns, int from, int to) {
            for (int c = 0; c < COLUMNS; c++) {
                int arm = arms.owner[c];
                if (arm != NONE && (columns >> c & 1) != 0 && from < knownEnd(arm)) {
                    return true;
                }
            }
            return spans.overlap(columns, from, to);
        }

        int promisedTo(int column, int tick) {
            for (int j = 0; j < jobs.size; j++) {
                if (jobs.promise[j] != NONE && promises(j, column, tick)) {
                    return j;
                }
            }
            return NONE;
        }

        private boolean promises(int job, int column, int tick) {
            int begin = jobs.promise[job];
            for (int a = job * ARMS; a < job * ARMS + jobs.arms[job]; a++) {
                int first = arms.promised[a];
                boolean inColumns = column >= first && column < first + arms.wide[a];
                if (inColumns && tick >= begin && tick < begin + arms.asks[a]) {
                    return true;
                }
            }
            return false;
        }

        /** Writes a JOB's text. */
        void tell(int job, StringBuilder words) {
            words.setLength(0);
            words.append(job).append(":a").append(jobs.account[job]);
            words.append(" r").append(jobs.rank[job]).append(' ');
            for (int a = 0; a < jobs.arms[job]; a++) {
                if (a > 0) {
                    words.append(',');
                }
                words.append(arms.wide[job * ARMS + a]).append('x').append(arms.asks[job * ARMS + a]);
            }
            if (jobs.start[job] != NONE) {
                words.append(" @").append(jobs.start[job]);
            }
        }
    }

    /** THE LINE. */
    private static final class Line {
        int size;
        final int[] order = new int[JOBS];
        private final int[] keys = new int[JOBS];
        private final int[] shares = new int[ACCOUNTS];

        void form(Scene scene) {
            for (int a = 0; a < ACCOUNTS; a++) {
                shares[a] = scene.sharesBelow(a);
            }
            size = 0;
            for (int j = 0; j < scene.jobs.size; j++) {
                if (scene.jobs.isInLine(j)) {
                    insert(j, (MOST_RANK - scene.jobs.rank[j]) * ACCOUNTS + shares[scene.jobs.account[j]]);
                }
            }
        }

        // The jobs come by number, so one that comes stands behind all of its own key.
        private void insert(int job, int key) {
            int at = size;
            while (at > 0 && keys[at - 1] > key) {
                keys[at] = keys[at - 1];
                order[at] = order[at - 1];
                at--;
            }
            keys[at] = key;
            order[at] = job;
            size++;
        }
    }

    /** What blocks columns: what ARMS that run are known to hold, PROMISES, KEPT SPANS. */
    private static final class Board {
        // 16 ARMS that run at most (each holds a column), 4 PROMISES of 4 ARMS, 12 KEPT SPANS.
        private static final int ROWS = COLUMNS + 4 * ARMS + SPANS;
        private static final int NEVER = 0x7FFFFFFF;

        private int size;
        private final int[] mask = new int[ROWS];
        private final int[] from = new int[ROWS];
        private final int[] to = new int[ROWS];
        /** The ACCOUNT whose JOBS a row does not block, or NONE. */
        private final int[] freeFor = new int[ROWS];

        void add(int columns, int begin, int end, int account) {
            if (size < ROWS) {
                mask[size] = columns;
                from[size] = begin;
                to[size] = end;
                freeFor[size] = account;
                size++;
            }
        }

        /** The ARMS that run, but for two of them, and the KEPT SPANS. */
        void loadHeld(Scene scene, int withoutArm, int norArm) {
            size = 0;
            for (int c = 0; c < COLUMNS; c++) {
                int arm = scene.arms.owner[c];
                if (arm != NONE && scene.arms.column[arm] == c && arm != withoutArm && arm != norArm) {
                    add(maskOf(c, scene.arms.wide[arm]), scene.now, scene.knownEnd(arm), NONE);
                }
            }
            Spans spans = scene.spans;
            for (int i = 0; i < spans.size; i++) {
                add(spans.mask[i], spans.from[i], spans.to[i], spans.account[i]);
            }
        }

        /** The PROMISES, but for those of two JOBS. */
        void loadPromises(Scene scene, int withoutJob, int norJob) {
            for (int j = 0; j < scene.jobs.size; j++) {
                if (scene.jobs.promise[j] != NONE && j != withoutJob && j != norJob) {
                    addPromise(scene, j);
                }
            }
        }

        void addPromise(Scene scene, int job) {
            int begin = scene.jobs.promise[job];
            for (int a = job * ARMS; a < job * ARMS + scene.jobs.arms[job]; a++) {
                int columns = maskOf(scene.arms.promised[a], scene.arms.wide[a]);
                add(columns, begin, begin + scene.arms.asks[a], NONE);
            }
        }

        /** The columns that nothing but the account's own KEPT SPANS blocks in a span of ticks. */
        int freeColumns(int account, int tick, int ticks) {
            int busy = 0;
            for (int i = 0; i < size; i++) {
                if (tick < to[i] && from[i] - tick < ticks && (account == NONE || freeFor[i] != account)) {
                    busy |= mask[i];
                }
            }
            return ALL_COLUMNS & ~busy;
        }

        /** Whether the gang FITS at a tick; then it has its columns. */
        boolean fits(Gang gang, int account, int tick) {
            gang.taken = 0;
            for (int k = 0; k < gang.size; k++) {
                int a = gang.order[k];
                int columns = freeColumns(account, tick, gang.asks[a]) & ~gang.taken;
                int first = bestRun(columns, gang.wide[a]);
                if (first == NONE) {
                    return false;
                }
                gang.column[a] = first;
                gang.taken |= maskOf(first, gang.wide[a]);
            }
            return true;
        }

        /** The first tick of those from one on to another at which the gang FITS, or NONE. */
        int firstFit(Gang gang, int account, int first, int last) {
            int tick = first;
            for (int tried = first; tried <= last && tick <= last; tried++) {
                if (fits(gang, account, tick)) {
                    return tick;
                }
                tick = nextChange(gang, account, tick);
            }
            return NONE;
        }

        // Between two changes each arm finds the same columns free; and not just a column that becomes
        // free may let a gang FIT, one that becomes blocked may, too: it makes a run shorter.
        private int nextChange(Gang gang, int account, int tick) {
            int next = NEVER;
            for (int i = 0; i < size; i++) {
                if (freeFor[i] == account) {
                    continue;
                }
                if (to[i] > tick && to[i] < next) {
                    next = to[i];
                }
                for (int a = 0; a < gang.size; a++) {
                    int blocked = from[i] - gang.asks[a] + 1;
                    if (blocked > tick && blocked < next) {
                        next = blocked;
                    }
                }
            }
            return next;
        }

        /** The first tick, from one on, at which nothing blocks a column. */
        int gapBegin(int column, int tick) {
            int begin = tick;
            for (int round = 0; round < size; round++) {
                for (int i = 0; i < size; i++) {
                    if ((mask[i] >> column & 1) != 0 && from[i] <= begin && begin < to[i]) {
                        begin = to[i];
                    }
                }
            }
            return begin;
        }

        /** The first tick behind one at which something begins to block a column, or NONE. */
        int gapEnd(int column, int tick) {
            int end = NONE;
            for (int i = 0; i < size; i++) {
                if ((mask[i] >> column & 1) != 0 && from[i] > tick && (end == NONE || from[i] < end)) {
                    end = from[i];
                }
            }
            return end;
        }
    }

    /** Makes PASSES and TICKS, and takes JOBS off. */
    private static final class Scheduler {
        private final Board board = new Board();
        private final Gang gang = new Gang();
        private final Line line = new Line();
        private final int[] held = new int[ACCOUNTS];
        private final int[] promisedBefore = new int[JOBS];
        private final int[] toTakeOff = new int[JOBS];

        int goPass(Scene scene) {
            line.form(scene);
            beginPass(scene);
            Jobs jobs = scene.jobs;
            int idle = scene.arms.idleColumns();
            int last = scene.inThought ? lastHopeful(scene, idle) : line.size - 1;
            int begun = 0;
            int made = 0;
            int more = scene.rules[WINDOW];
            boolean stuck = false;
            for (int i = 0; i <= last; i++) {
                int job = line.order[i];
                if (isOverLimit(scene, job)) {
                    continue;
                }
                if (stuck) {
                    if (more == 0) {
                        break;
                    }
                    more--;
                }
                gang.load(scene, job);
                if (jobs.columns[job] <= idle && board.fits(gang, jobs.account[job], scene.now)) {
                    begin(scene, job, stuck);
                    begun++;
                    idle -= jobs.columns[job];
                } else {
                    stuck = true;
                    int reach = made < scene.rules[DEPTH] ? PROMISE_REACH : 0;
                    int tick = board.firstFit(gang, jobs.account[job], scene.now + 1, scene.now + reach);
                    if (tick != NONE) {
                        promise(scene, job, tick);
                        made++;
                    }
                }
            }
            return begun;
        }

        private void beginPass(Scene scene) {
            scene.book.figures[LED_PASSES]++;
            for (int j = 0; j < scene.jobs.size; j++) {
                promisedBefore[j] = scene.jobs.promise[j];
                scene.jobs.promise[j] = NONE;
            }
            board.loadHeld(scene, NONE, NONE);
            Arrays.fill(held, 0);
            for (int c = 0; c < COLUMNS; c++) {
                int arm = scene.arms.owner[c];
                if (arm != NONE) {
                    held[scene.accountOfArm(arm)]++;
                }
            }
        }

        private boolean isOverLimit(Scene scene, int job) {
            int account = scene.jobs.account[job];
            return scene.jobs.columns[job] + held[account] > scene.limits[account];
        }

        // In thought nothing counts but what STARTS: behind the last job for which there are columns
        // enough, the PASS need not go on to make PROMISES.
        private int lastHopeful(Scene scene, int idle) {
            for (int i = line.size - 1; i >= 0; i--) {
                int job = line.order[i];
                if (scene.jobs.columns[job] <= idle && !isOverLimit(scene, job)) {
                    return i;
                }
            }
            return NONE;
        }

        private void begin(Scene scene, int job, boolean ahead) {
            Jobs jobs = scene.jobs;
            jobs.state[job] = RUNNING;
            jobs.start[job] = scene.now;
            held[jobs.account[job]] += jobs.columns[job];
            for (int a = 0; a < gang.size; a++) {
                int arm = job * ARMS + a;
                scene.arms.column[arm] = gang.column[a];
                scene.arms.end[arm] = scene.now + Math.min(gang.asks[a], scene.lasts(arm));
                scene.arms.own(arm, arm);
                board.add(maskOf(gang.column[a], gang.wide[a]), scene.now, scene.knownEnd(arm), NONE);
            }
            Book book = scene.book;
            book.addStarted(job);
            book.note(scene.now, EVENT_STARTED, job);
            book.figures[LED_STARTED]++;
            book.figures[LED_LEAPT] += ahead ? 1 : 0;
            book.figures[LED_WAITED] += scene.now - jobs.came[job];
        }

        private void promise(Scene scene, int job, int tick) {
            Jobs jobs = scene.jobs;
            jobs.promise[job] = tick;
            for (int a = 0; a < gang.size; a++) {
                scene.arms.promised[job * ARMS + a] = gang.column[a];
            }
            board.addPromise(scene, job);
            if (jobs.firstPromise[job] == NONE) {
                jobs.firstPromise[job] = tick;
            }
            if (promisedBefore[job] != tick) {
                scene.book.note(scene.now, EVENT_PROMISED, job);
            }
        }

        void goTick(Scene scene) {
            goPass(scene);
            account(scene);
            scene.now++;
            if (letArmsGo(scene)) {
                endJobs(scene);
            }
            int period = scene.rules[PERIOD];
            if (period != 0 && scene.now % period == 0) {
                for (int a = 0; a < ACCOUNTS; a++) {
                    scene.uses[a] /= 2;
                }
            }
            scene.spans.endBy(scene.now);
        }

        /** Counts who holds columns in the TICK that goes by. */
        private void account(Scene scene) {
            for (int c = 0; c < COLUMNS; c++) {
                int arm = scene.arms.owner[c];
                scene.book.chartTick(c, scene.now, scene.arms.jobOn(c));
                if (arm == NONE) {
                    scene.book.figures[LED_IDLE]++;
                } else {
                    scene.uses[scene.accountOfArm(arm)]++;
                }
            }
        }

        private boolean letArmsGo(Scene scene) {
            boolean any = false;
            for (int c = 0; c < COLUMNS; c++) {
                int arm = scene.arms.owner[c];
                if (arm != NONE && scene.arms.end[arm] <= scene.now) {
                    scene.arms.owner[c] = NONE;
                    any = true;
                }
            }
            return any;
        }

        private void endJobs(Scene scene) {
            for (int j = 0; j < scene.jobs.size; j++) {
                if (scene.jobs.state[j] == RUNNING && !anyArmHolds(scene, j)) {
                    endAs(scene, j, isCut(scene, j) ? CUT : DONE);
                }
            }
        }

        private boolean anyArmHolds(Scene scene, int job) {
            for (int a = job * ARMS; a < job * ARMS + scene.jobs.arms[job]; a++) {
                if (scene.arms.holds(a)) {
                    return true;
                }
            }
            return false;
        }

        private boolean isCut(Scene scene, int job) {
            for (int a = job * ARMS; a < job * ARMS + scene.jobs.arms[job]; a++) {
                if (scene.lasts(a) > scene.arms.asks[a]) {
                    return true;
                }
            }
            return false;
        }

        private void endAs(Scene scene, int job, int state) {
            scene.jobs.state[job] = state;
            scene.jobs.ended[job] = scene.now;
            scene.book.figures[state - 1]++;
            scene.book.note(scene.now, state, job);
        }

        /** Takes a JOB off and, one by one, all that wait for it: how many. */
        int takeOff(Scene scene, int job) {
            int taken = 0;
            int size = 1;
            toTakeOff[0] = job;
            while (size > 0 && taken < JOBS) {
                size--;
                int next = toTakeOff[size];
                takeOffAlone(scene, next);
                taken++;
                // The least number comes on top, to be next.
                for (int j = scene.jobs.size - 1; j > next; j--) {
                    if (scene.jobs.state[j] == WAITING && scene.jobs.after[j] == next && size < JOBS) {
                        toTakeOff[size] = j;
                        size++;
                    }
                }
            }
            return taken;
        }

        private void takeOffAlone(Scene scene, int job) {
            for (int a = job * ARMS; a < job * ARMS + scene.jobs.arms[job]; a++) {
                if (scene.arms.holds(a)) {
                    scene.arms.own(a, NONE);
                    scene.arms.end[a] = scene.now;
                }
            }
            scene.jobs.promise[job] = NONE;
            endAs(scene, job, OFF);
        }
    }

    /** What would be: as TICKS go by on a scene of its own, and as things stand now. */
    private static final class Thoughts {
        private final Scene ahead = new Scene(true);
        private final Scheduler scheduler = new Scheduler();
        private final int[] startsWithout = new int[JOBS];
        private final Board board = new Board();
        private final Gang gang = new Gang();
        private final int[] runners = new int[COLUMNS];
        private final int[] open = new int[ARMS];
        private int runnersSize;

        // ---- as TICKS go by: FORETOLD, PLAN, BY RULES, COSTS

        private void beginAs(Scene real) {
            ahead.copyWithoutBook(real);
            ahead.book.startedSize = 0;
            for (int j = 0; j < ahead.jobs.size; j++) {
                ahead.jobs.part[j] = 100;
            }
            for (int c = 0; c < COLUMNS; c++) {
                int arm = ahead.arms.owner[c];
                if (arm != NONE) {
                    ahead.arms.end[arm] = ahead.knownEnd(arm);
                }
            }
        }

        /** Lets TICKS go by, till a JOB STARTS, if one is named, or none can any more. */
        private void letGoBy(int until) {
            for (int i = 0; i < THOUGHT_TICKS && ahead.jobs.anyMayStart(); i++) {
                scheduler.goTick(ahead);
                if (until != NONE && ahead.jobs.start[until] != NONE) {
                    break;
                }
            }
        }

        int startOf(Scene real, int job) {
            beginAs(real);
            letGoBy(job);
            return ahead.jobs.start[job];
        }

        /** The book in which those stand that START. */
        Book seen(Scene real) {
            beginAs(real);
            letGoBy(NONE);
            return ahead.book;
        }

        int underRule(Scene real, int rule, int v, int what) {
            beginAs(real);
            ahead.rules[rule] = v;
            letGoBy(NONE);
            int sum = 0;
            int greatest = NONE;
            for (int i = 0; i < ahead.book.startedSize; i++) {
                int wait = ahead.jobs.start[ahead.book.startedJobs[i]] - real.now;
                sum += wait;
                greatest = Math.max(greatest, wait);
            }
            if (what == 0) {
                return ahead.book.startedSize;
            }
            return what == 1 ? sum : greatest;
        }

        int startOfNew(Scene real, Gang asked, int account, int rank) {
            beginAs(real);
            int job = ahead.addJob(asked, account, rank, 100, NONE);
            letGoBy(job);
            return ahead.jobs.start[job];
        }

        int delayByNew(Scene real, Gang asked, int account, int rank) {
            beginAs(real);
            letGoBy(NONE);
            int before = ahead.jobs.size;
            System.arraycopy(ahead.jobs.start, 0, startsWithout, 0, before);
            beginAs(real);
            ahead.addJob(asked, account, rank, 100, NONE);
            letGoBy(NONE);
            int sum = 0;
            for (int j = 0; j < before; j++) {
                if (startsWithout[j] != NONE && ahead.jobs.start[j] != NONE) {
                    sum += Math.max(0, ahead.jobs.start[j] - startsWithout[j]);
                }
            }
            return sum;
        }

        // ---- as things stand now: SHRUNK, MOVES, TOGETHER, GAPS, ORDERS, EARLIEST, HOLES

        int greatestPart(Scene scene, int job) {
            loadWithout(scene, job, NONE);
            for (int p = 100; p >= 1; p--) {
                gang.load(scene, job);
                for (int a = 0; a < gang.size; a++) {
                    gang.asks[a] = Math.max(1, gang.asks[a] * p / 100);
                }
                if (board.fits(gang, scene.jobs.account[job], scene.now)) {
                    return p;
                }
            }
            return NONE;
        }

        private void loadWithout(Scene scene, int job, int norJob) {
            board.loadHeld(scene, NONE, NONE);
            board.loadPromises(scene, job, norJob);
        }

        int fewestMoves(Scene scene, int job) {
            gang.load(scene, job);
            listRunners(scene);
            if (fitsMoving(scene, job, NONE, NONE)) {
                return 0;
            }
            for (int i = 0; i < runnersSize; i++) {
                if (fitsMoving(scene, job, runners[i], NONE)) {
                    return 1;
                }
            }
            for (int i = 0; i < runnersSize; i++) {
                for (int k = i + 1; k < runnersSize; k++) {
                    if (fitsMoving(scene, job, runners[i], runners[k])) {
                        return 2;
                    }
                }
            }
            return NONE;
        }

        /** The ARMS that run in the order in which they look for columns anew. */
        private void listRunners(Scene scene) {
            Arms arms = scene.arms;
            runnersSize = 0;
            for (int c = 0; c < COLUMNS; c++) {
                int arm = arms.owner[c];
                if (arm == NONE || arms.column[arm] != c) {
                    continue;
                }
                int at = runnersSize;
                while (at > 0 && isBehind(arms, runners[at - 1], arm)) {
                    runners[at] = runners[at - 1];
                    at--;
                }
                runners[at] = arm;
                runnersSize++;
            }
        }

        private boolean isBehind(Arms arms, int one, int other) {
            int wider = arms.wide[other] - arms.wide[one];
            return wider > 0 || wider == 0 && other < one;
        }

        private boolean fitsMoving(Scene scene, int job, int arm, int nextArm) {
            board.loadHeld(scene, arm, nextArm);
            board.loadPromises(scene, job, NONE);
            return board.fits(gang, scene.jobs.account[job], scene.now)
                && settles(scene, arm)
                && settles(scene, nextArm);
        }

        /** Whether an ARM that moves finds columns, which are taken then. */
        private boolean settles(Scene scene, int arm) {
            if (arm == NONE) {
                return true;
            }
            int ticks = scene.knownEnd(arm) - scene.now;
            int columns = board.freeColumns(scene.accountOfArm(arm), scene.now, ticks) & ~gang.taken;
            int first = bestRun(columns, scene.arms.wide[arm]);
            if (first == NONE) {
                return false;
            }
            gang.taken |= maskOf(first, scene.arms.wide[arm]);
            return true;
        }

        int sideBySide(Scene scene, int a, int b) {
            return (fitBehind(scene, a, b) ? 1 : 0) | (fitBehind(scene, b, a) ? 2 : 0);
        }

        private boolean fitBehind(Scene scene, int first, int second) {
            loadWithout(scene, first, second);
            gang.load(scene, first);
            if (!board.fits(gang, scene.jobs.account[first], scene.now)) {
                return false;
            }
            // Both begin now, so what the first one took is blocked for the other one however long it is.
            board.add(gang.taken, scene.now, scene.now + 1, NONE);
            gang.load(scene, second);
            return board.fits(gang, scene.jobs.account[second], scene.now);
        }

        int gapOf(Scene scene, int column, int i, int what) {
            loadWithout(scene, NONE, NONE);
            int begin = board.gapBegin(column, scene.now);
            int end = board.gapEnd(column, begin);
            for (int k = 0; k < i; k++) {
                if (end == NONE) {
                    return NONE;
                }
                begin = board.gapBegin(column, end);
                end = board.gapEnd(column, begin);
            }
            if (what == 0) {
                return begin;
            }
            return end == NONE ? NONE : end - begin;
        }

        int goodOrders(Scene scene, int job, int tick) {
            loadWithout(scene, job, NONE);
            gang.load(scene, job);
            int codes = 1;
            for (int a = 0; a < gang.size; a++) {
                open[a] = board.freeColumns(scene.jobs.account[job], tick, gang.asks[a]);
                codes *= ARMS;
            }
            int good = 0;
            for (int code = 0; code < codes; code++) {
                good += isGoodOrder(code) ? 1 : 0;
            }
            return good;
        }

        /** Whether the two bits for each place name each arm once, and all find theirs in this order. */
        private boolean isGoodOrder(int code) {
            int seen = 0;
            int taken = 0;
            for (int k = 0; k < gang.size; k++) {
                int a = code >> 2 * k & 3;
                if (a >= gang.size || (seen >> a & 1) != 0) {
                    return false;
                }
                seen |= 1 << a;
                int first = bestRun(open[a] & ~taken, gang.wide[a]);
                if (first == NONE) {
                    return false;
                }
                taken |= maskOf(first, gang.wide[a]);
            }
            return true;
        }

        int firstTick(Scene scene, Gang asked, int account) {
            loadWithout(scene, NONE, NONE);
            return board.firstFit(asked, account, scene.now, scene.now + PROMISE_REACH);
        }

        int openColumns(Scene scene, int tick, int ticks) {
            loadWithout(scene, NONE, NONE);
            return board.freeColumns(NONE, tick, ticks);
        }
    }
}
