import java.util.ArrayList;
import java.util.Comparator;
import java.util.List;

/**
 * The document a second time, written apart from the program, in the plainest way and slowly: lists of
 * small objects, ticks looked at one by one. RandomRuns compares the program with it.
 */
final class Oracle {
    static final int BAD = -1, NOT = -2, FULL = -3, STATE = -5;

    private static final class Arm {
        int wide, asks, lasts, column = -1, end = -1, promised;
        boolean holds;
        Job job;
        int index;
    }

    private static final class Job {
        int number, account, rank, part, after, state, came, start = -1, ended = -1, first = -1, promise = -1;
        boolean back;
        List<Arm> arms = new ArrayList<>();

        int columns() {
            return arms.stream().mapToInt(a -> a.wide).sum();
        }
    }

    private static final class Span {
        int number, a, b, from, to, account;
    }

    private static final class World {
        int now, depth = 1, window = 80, period, nextSpan;
        int[] weight = {10, 10, 10, 10, 10, 10, 10, 10};
        int[] limit = {16, 16, 16, 16, 16, 16, 16, 16};
        long[] used = new long[8];
        List<Job> jobs = new ArrayList<>();
        List<Span> spans = new ArrayList<>();
        List<Integer> starts = new ArrayList<>();
        List<int[]> events = new ArrayList<>();
        List<int[]> charts = new ArrayList<>();
        long[] led = new long[8];
    }

    private World w = new World();
    private World image = new World();
    private String tape = "";

    // ---- copies

    private static World copy(World o) {
        World c = new World();
        c.now = o.now;
        c.depth = o.depth;
        c.window = o.window;
        c.period = o.period;
        c.nextSpan = o.nextSpan;
        c.weight = o.weight.clone();
        c.limit = o.limit.clone();
        c.used = o.used.clone();
        c.led = o.led.clone();
        c.starts.addAll(o.starts);
        c.events.addAll(o.events);
        c.charts.addAll(o.charts);
        for (Span s : o.spans) {
            c.spans.add(span(s.number, s.a, s.b, s.from, s.to, s.account));
        }
        for (Job j : o.jobs) {
            Job k = new Job();
            k.number = j.number;
            k.account = j.account;
            k.rank = j.rank;
            k.part = j.part;
            k.after = j.after;
            k.state = j.state;
            k.came = j.came;
            k.start = j.start;
            k.ended = j.ended;
            k.first = j.first;
            k.promise = j.promise;
            k.back = j.back;
            for (Arm a : j.arms) {
                Arm b = new Arm();
                b.wide = a.wide;
                b.asks = a.asks;
                b.lasts = a.lasts;
                b.column = a.column;
                b.end = a.end;
                b.promised = a.promised;
                b.holds = a.holds;
                b.job = k;
                b.index = a.index;
                k.arms.add(b);
            }
            c.jobs.add(k);
        }
        return c;
    }

    private static Span span(int number, int a, int b, int from, int to, int account) {
        Span s = new Span();
        s.number = number;
        s.a = a;
        s.b = b;
        s.from = from;
        s.to = to;
        s.account = account;
        return s;
    }

    // ---- free columns, fitting

    /** The columns (true: free) for an account in ticks t to t + n; account -9 is nobody's at all. */
    private static boolean[] free(World w, int account, int t, long n, List<Job> unpromised, List<Arm> gone) {
        boolean[] is = new boolean[16];
        java.util.Arrays.fill(is, true);
        for (Job j : w.jobs) {
            if (j.state > 1 || j.state == 0 && j.promise < 0) {
                continue;
            }
            for (Arm a : j.arms) {
                if (a.holds && !gone.contains(a) && t < j.start + a.asks) {
                    block(is, a.column, a.column + a.wide - 1);
                }
                if (j.promise >= 0 && !unpromised.contains(j) && t < j.promise + a.asks && j.promise < t + n) {
                    block(is, a.promised, a.promised + a.wide - 1);
                }
            }
        }
        for (Span s : w.spans) {
            if (s.account != account && t < s.to && s.from < t + n) {
                block(is, s.a, s.b);
            }
        }
        return is;
    }

    private static void block(boolean[] is, int first, int last) {
        for (int c = first; c <= last; c++) {
            is[c] = false;
        }
    }

    private static int choose(boolean[] is, int wide) {
        int best = -1;
        int length = 99;
        for (int c = 0; c < 16; c++) {
            if (is[c] && (c == 0 || !is[c - 1])) {
                int e = c;
                while (e < 16 && is[e]) {
                    e++;
                }
                if (e - c >= wide && e - c < length) {
                    best = c;
                    length = e - c;
                }
            }
        }
        return best;
    }

    /** Arms in the order given find columns: their first columns (as the arms stand), or null. */
    private static int[] place(World w, int account, List<int[]> arms, int[] order, int t,
            List<Job> unpromised, List<Arm> gone, boolean[] taken) {
        int[] columns = new int[arms.size()];
        for (int i : order) {
            boolean[] is = free(w, account, t, arms.get(i)[1], unpromised, gone);
            for (int c = 0; c < 16; c++) {
                is[c] &= !taken[c];
            }
            int c = choose(is, arms.get(i)[0]);
            if (c < 0) {
                return null;
            }
            columns[i] = c;
            for (int k = c; k < c + arms.get(i)[0]; k++) {
                taken[k] = true;
            }
        }
        return columns;
    }

    private static int[] widestFirst(List<int[]> arms) {
        List<Integer> order = new ArrayList<>();
        for (int i = 0; i < arms.size(); i++) {
            order.add(i);
        }
        order.sort(Comparator.comparing((Integer i) -> -arms.get(i)[0]));
        return order.stream().mapToInt(i -> i).toArray();
    }

    private static List<int[]> asked(Job j) {
        List<int[]> arms = new ArrayList<>();
        for (Arm a : j.arms) {
            arms.add(new int[] {a.wide, a.asks});
        }
        return arms;
    }

    private static int[] fit(World w, int account, List<int[]> arms, int t, List<Job> unpromised) {
        return place(w, account, arms, widestFirst(arms), t, unpromised, List.of(), new boolean[16]);
    }

    private static int lastChange(World w) {
        int last = w.now;
        for (Job j : w.jobs) {
            for (Arm a : j.arms) {
                last = Math.max(last, Math.max(a.holds ? j.start + a.asks : 0, j.promise + a.asks));
            }
        }
        for (Span s : w.spans) {
            last = Math.max(last, s.to);
        }
        return last;
    }

    private static int search(World w, int account, List<int[]> arms, int from, int to) {
        int last = lastChange(w) + 1;
        for (int t = from; t <= to && t <= Math.max(last, from); t++) {
            if (fit(w, account, arms, t, List.of()) != null) {
                return t;
            }
        }
        return -1;
    }

    // ---- passes and ticks

    private static int compareShares(World w, int a, int b) {
        return Long.compare(w.used[a] * w.weight[b], w.used[b] * w.weight[a]);
    }

    private static List<Job> line(World w) {
        List<Job> line = new ArrayList<>();
        for (Job j : w.jobs) {
            boolean ready = j.after < 0 || w.jobs.get(j.after).state == 2 || w.jobs.get(j.after).state == 3;
            if (j.state == 0 && !j.back && ready) {
                line.add(j);
            }
        }
        line.sort((x, y) -> {
            if (x.rank != y.rank) {
                return y.rank - x.rank;
            }
            int c = compareShares(w, x.account, y.account);
            return c != 0 ? c : x.number - y.number;
        });
        return line;
    }

    private static void note(World w, int kind, Job j) {
        w.events.add(new int[] {w.now, kind, j.number});
    }

    private static int doPass(World w) {
        w.led[7]++;
        int[] before = new int[w.jobs.size()];
        for (Job j : w.jobs) {
            before[j.number] = j.promise;
            j.promise = -1;
        }
        int begun = 0;
        int promises = 0;
        int looked = -1;
        for (Job j : line(w)) {
            int held = 0;
            for (Job k : w.jobs) {
                for (Arm a : k.arms) {
                    held += k.account == j.account && a.holds ? a.wide : 0;
                }
            }
            if (held + j.columns() > w.limit[j.account]) {
                continue;
            }
            if (looked >= 0) {
                looked++;
                if (looked > w.window) {
                    break;
                }
            }
            int[] columns = fit(w, j.account, asked(j), w.now, List.of());
            if (columns != null) {
                begun++;
                j.state = 1;
                j.start = w.now;
                for (Arm a : j.arms) {
                    a.column = columns[a.index];
                    a.holds = true;
                    a.end = w.now + Math.min(a.asks, a.lasts);
                }
                w.starts.add(j.number);
                w.led[0]++;
                w.led[4] += looked >= 0 ? 1 : 0;
                w.led[5] += w.now - j.came;
                note(w, 1, j);
                continue;
            }
            looked = Math.max(looked, 0);
            if (promises < w.depth) {
                int t = search(w, j.account, asked(j), w.now + 1, w.now + 20000);
                if (t >= 0) {
                    promises++;
                    int[] at = fit(w, j.account, asked(j), t, List.of());
                    j.promise = t;
                    for (Arm a : j.arms) {
                        a.promised = at[a.index];
                    }
                    if (j.first < 0) {
                        j.first = t;
                    }
                    if (before[j.number] != t) {
                        note(w, 5, j);
                    }
                }
            }
        }
        return begun;
    }

    private static void doTick(World w) {
        doPass(w);
        int[] chart = new int[16];
        java.util.Arrays.fill(chart, -1);
        w.led[6] += 16;
        for (Job j : w.jobs) {
            for (Arm a : j.arms) {
                if (a.holds) {
                    w.used[j.account] += a.wide;
                    w.led[6] -= a.wide;
                    for (int c = a.column; c < a.column + a.wide; c++) {
                        chart[c] = j.number;
                    }
                }
            }
        }
        w.charts.add(chart);
        w.now++;
        for (Job j : w.jobs) {
            boolean cut = false;
            boolean runs = false;
            for (Arm a : j.arms) {
                a.holds &= a.end > w.now;
                cut |= a.lasts > a.asks;
                runs |= a.holds;
            }
            if (j.state == 1 && !runs) {
                j.state = cut ? 3 : 2;
                j.ended = w.now;
                w.led[cut ? 2 : 1]++;
                note(w, j.state, j);
            }
        }
        if (w.period != 0 && w.now % w.period == 0) {
            for (int a = 0; a < 8; a++) {
                w.used[a] /= 2;
            }
        }
        w.spans.removeIf(s -> s.to <= w.now);
    }

    private static World thought(World w) {
        World t = copy(w);
        t.starts.clear();
        for (Job j : t.jobs) {
            for (Arm a : j.arms) {
                a.lasts = a.asks;
                if (a.holds) {
                    a.end = j.start + a.asks;
                }
            }
        }
        return t;
    }

    private static void goBy(World t) {
        for (int i = 0; i < 300; i++) {
            doTick(t);
        }
    }

    private Job job(int number) {
        return number < 0 || number >= w.jobs.size() ? null : w.jobs.get(number);
    }

    private static boolean bad(int v, int least, int most) {
        return v < least || v > most;
    }

    // ---- the face

    int weight(int account, int v) {
        if (bad(account, 0, 7) || bad(v, 1, 100)) {
            return BAD;
        }
        int was = w.weight[account];
        w.weight[account] = v;
        return was;
    }

    int limit(int account, int v) {
        if (bad(account, 0, 7) || bad(v, 0, 16)) {
            return BAD;
        }
        int was = w.limit[account];
        w.limit[account] = v;
        return was;
    }

    int ranked(int i) {
        if (bad(i, 0, 7)) {
            return BAD;
        }
        List<Integer> accounts = new ArrayList<>(List.of(0, 1, 2, 3, 4, 5, 6, 7));
        accounts.sort((a, b) -> compareShares(w, a, b));
        return accounts.get(i);
    }

    private static boolean badRule(int what, int v) {
        return bad(what, 0, 2) || bad(v, 0, what == 0 ? 4 : what == 1 ? 80 : 100);
    }

    private static int setRule(World w, int what, int v) {
        int was = what == 0 ? w.depth : what == 1 ? w.window : w.period;
        if (what == 0) {
            w.depth = v;
        } else if (what == 1) {
            w.window = v;
        } else {
            w.period = v;
        }
        return was;
    }

    int rule(int what, int v) {
        return badRule(what, v) ? BAD : setRule(w, what, v);
    }

    long used(int account) {
        return bad(account, 0, 7) ? BAD : w.used[account];
    }

    int feed(int letter) {
        if (bad(letter, 32, 126)) {
            return BAD;
        }
        if (tape.length() == 60) {
            return FULL;
        }
        tape += (char) letter;
        return tape.length();
    }

    /** The arms of the tape, emptied; or in fault[0] the place of the fault. */
    private List<int[]> read(int[] fault) {
        String s = tape;
        tape = "";
        List<int[]> arms = new ArrayList<>();
        int p = 0;
        while (true) {
            int[] arm = new int[2];
            for (int part = 0; part < 2; part++) {
                int e = p;
                while (e < s.length() && e < p + 3 && Character.isDigit(s.charAt(e))) {
                    e++;
                }
                int value = e == p ? 0 : Integer.parseInt(s.substring(p, e));
                if (bad(value, 1, part == 0 ? 16 : 200)) {
                    fault[0] = p;
                    return null;
                }
                arm[part] = value;
                p = e;
                if (part == 0) {
                    if (!s.startsWith("x", p)) {
                        fault[0] = p;
                        return null;
                    }
                    p++;
                }
            }
            arms.add(arm);
            if (p == s.length()) {
                return arms;
            }
            if (s.charAt(p) != ',' || arms.size() == 4) {
                fault[0] = p;
                return null;
            }
            p++;
        }
    }

    private static Job come(World w, List<int[]> arms, int account, int rank, int part, int after) {
        Job j = new Job();
        j.number = w.jobs.size();
        j.account = account;
        j.rank = rank;
        j.part = part;
        j.after = after;
        j.came = w.now;
        for (int[] told : arms) {
            Arm a = new Arm();
            a.wide = told[0];
            a.asks = told[1];
            a.lasts = Math.max(1, a.asks * part / 100);
            a.job = j;
            a.index = j.arms.size();
            j.arms.add(a);
        }
        w.jobs.add(j);
        note(w, 0, j);
        return j;
    }

    int job(int account, int rank, int part, int after) {
        if (bad(account, 0, 7) || bad(rank, 0, 9) || bad(part, 1, 150) || bad(after, -1, w.jobs.size() - 1)) {
            return BAD;
        }
        if (w.jobs.size() == 80) {
            return FULL;
        }
        if (after >= 0 && w.jobs.get(after).state == 4) {
            return STATE;
        }
        int[] fault = new int[1];
        List<int[]> arms = read(fault);
        return arms == null ? -100 - fault[0] : come(w, arms, account, rank, part, after).number;
    }

    private int takeOff(Job j) {
        j.state = 4;
        j.ended = w.now;
        j.promise = -1;
        for (Arm a : j.arms) {
            if (a.holds) {
                a.holds = false;
                a.end = w.now;
            }
        }
        w.led[3]++;
        note(w, 4, j);
        int n = 1;
        for (Job k : w.jobs) {
            if (k.state == 0 && k.after == j.number) {
                n += takeOff(k);
            }
        }
        return n;
    }

    int off(int job) {
        Job j = job(job);
        return j == null ? BAD : j.state > 1 ? STATE : takeOff(j);
    }

    private static int orNot(int v) {
        return v < 0 ? NOT : v;
    }

    int of(int job, int what) {
        Job j = job(job);
        if (j == null || bad(what, 0, 10)) {
            return BAD;
        }
        int[] all = {j.state, j.account, j.rank, j.part, j.after, j.arms.size(), orNot(j.start), orNot(j.ended),
            orNot(j.first), orNot(j.promise), j.columns()};
        return all[what];
    }

    int arm(int job, int arm, int what) {
        Job j = job(job);
        if (j == null || bad(arm, 0, j.arms.size() - 1) || bad(what, 0, 4)) {
            return BAD;
        }
        Arm a = j.arms.get(arm);
        return new int[] {a.wide, a.asks, a.lasts, orNot(a.column), orNot(a.end)}[what];
    }

    int line(int i) {
        List<Job> line = line(w);
        return i < -1 ? BAD : i < 0 ? line.size() : i < line.size() ? line.get(i).number : NOT;
    }

    int rank(int job, int r) {
        Job j = job(job);
        if (j == null || bad(r, 0, 9)) {
            return BAD;
        }
        if (j.state != 0) {
            return STATE;
        }
        int was = j.rank;
        j.rank = r;
        return was;
    }

    int hold(int job, int back) {
        Job j = job(job);
        if (j == null || bad(back, 0, 1)) {
            return BAD;
        }
        if (j.state != 0) {
            return STATE;
        }
        int was = j.back ? 1 : 0;
        j.back = back == 1;
        j.promise = j.back ? -1 : j.promise;
        return was;
    }

    int text(int job, int i) {
        Job j = job(job);
        if (j == null || i < -1) {
            return BAD;
        }
        List<String> arms = new ArrayList<>();
        for (Arm a : j.arms) {
            arms.add(a.wide + "x" + a.asks);
        }
        String s = job + ":a" + j.account + " r" + j.rank + " " + String.join(",", arms)
            + (j.start < 0 ? "" : " @" + j.start);
        return i < 0 ? s.length() : i < s.length() ? s.charAt(i) : NOT;
    }

    private boolean badSpan(int ab, long from, long to, int account) {
        return ab < 0 || ab % 100 > 15 || ab / 100 > ab % 100 || from < w.now || to <= from
            || to > w.now + 30000L || bad(account, -1, 7);
    }

    private boolean overlaps(int ab, int from, int to) {
        for (int c = ab / 100; c <= ab % 100; c++) {
            for (Span s : w.spans) {
                if (c >= s.a && c <= s.b && Math.max(from, s.from) < Math.min(to, s.to)) {
                    return true;
                }
            }
            for (Job j : w.jobs) {
                for (Arm a : j.arms) {
                    if (a.holds && c >= a.column && c < a.column + a.wide && from < j.start + a.asks) {
                        return true;
                    }
                }
            }
        }
        return false;
    }

    int keep(int ab, int from, int to, int account) {
        if (badSpan(ab, from, to, account)) {
            return BAD;
        }
        if (w.spans.size() == 12) {
            return FULL;
        }
        if (overlaps(ab, from, to)) {
            return STATE;
        }
        w.spans.add(span(w.nextSpan, ab / 100, ab % 100, from, to, account));
        return w.nextSpan++;
    }

    int every(int ab, int from, int len, int apart, int n, int account) {
        if (bad(n, 1, 6) || len < 1 || apart < len) {
            return BAD;
        }
        for (long k = 0; k < n; k++) {
            if (badSpan(ab, from + k * apart, from + k * apart + len, account)) {
                return BAD;
            }
        }
        if (w.spans.size() + n > 12) {
            return FULL;
        }
        for (int k = 0; k < n; k++) {
            if (overlaps(ab, from + k * apart, from + k * apart + len)) {
                return STATE;
            }
        }
        int first = w.nextSpan;
        for (int k = 0; k < n; k++) {
            keep(ab, from + k * apart, from + k * apart + len, account);
        }
        return first;
    }

    int free(int span) {
        return w.spans.removeIf(s -> s.number == span) ? w.spans.size() : BAD;
    }

    int step(int n) {
        if (bad(n, 1, 100)) {
            return BAD;
        }
        if (w.now + n > 99999) {
            return FULL;
        }
        for (int i = 0; i < n; i++) {
            doTick(w);
        }
        return w.now;
    }

    int pass() {
        return doPass(w);
    }

    int holder(int column) {
        if (bad(column, 0, 15)) {
            return BAD;
        }
        for (Job j : w.jobs) {
            for (Arm a : j.arms) {
                if (a.holds && column >= a.column && column < a.column + a.wide) {
                    return j.number;
                }
            }
        }
        return NOT;
    }

    int promised(int column, int tick) {
        if (bad(column, 0, 15) || tick < w.now) {
            return BAD;
        }
        for (Job j : w.jobs) {
            for (Arm a : j.arms) {
                if (j.promise >= 0 && column >= a.promised && column < a.promised + a.wide && tick >= j.promise
                        && tick < j.promise + a.asks) {
                    return j.number;
                }
            }
        }
        return NOT;
    }

    int foretell(int job) {
        Job j = job(job);
        if (j == null) {
            return BAD;
        }
        if (j.state != 0) {
            return STATE;
        }
        World t = thought(w);
        goBy(t);
        return orNot(t.jobs.get(job).start);
    }

    int plan(int i) {
        if (i < -1) {
            return BAD;
        }
        World t = thought(w);
        goBy(t);
        return i < 0 ? t.starts.size() : i < t.starts.size() ? t.starts.get(i) : NOT;
    }

    int byRule(int rule, int v, int what) {
        if (badRule(rule, v) || bad(what, 0, 2)) {
            return BAD;
        }
        World t = thought(w);
        setRule(t, rule, v);
        goBy(t);
        int sum = 0;
        int greatest = NOT;
        for (int j : t.starts) {
            sum += t.jobs.get(j).start - w.now;
            greatest = Math.max(greatest, t.jobs.get(j).start - w.now);
        }
        return what == 0 ? t.starts.size() : what == 1 ? sum : greatest;
    }

    int shrunk(int job) {
        Job j = job(job);
        if (j == null) {
            return BAD;
        }
        if (j.state != 0) {
            return STATE;
        }
        for (int p = 100; p > 0; p--) {
            List<int[]> arms = asked(j);
            for (int[] a : arms) {
                a[1] = Math.max(1, a[1] * p / 100);
            }
            if (fit(w, j.account, arms, w.now, List.of(j)) != null) {
                return p;
            }
        }
        return NOT;
    }

    private boolean movable(Job j, List<Arm> gone) {
        boolean[] taken = new boolean[16];
        List<int[]> arms = asked(j);
        if (place(w, j.account, arms, widestFirst(arms), w.now, List.of(j), gone, taken) == null) {
            return false;
        }
        List<Arm> order = new ArrayList<>(gone);
        order.sort(Comparator.comparing((Arm a) -> -a.wide).thenComparing(a -> a.job.number)
            .thenComparing(a -> a.index));
        for (Arm a : order) {
            List<int[]> one = List.of(new int[] {a.wide, a.job.start + a.asks - w.now});
            if (place(w, a.job.account, one, new int[] {0}, w.now, List.of(j), gone, taken) == null) {
                return false;
            }
        }
        return true;
    }

    int moves(int job) {
        Job j = job(job);
        if (j == null) {
            return BAD;
        }
        if (j.state != 0) {
            return STATE;
        }
        List<Arm> running = new ArrayList<>();
        for (Job k : w.jobs) {
            for (Arm a : k.arms) {
                if (a.holds) {
                    running.add(a);
                }
            }
        }
        if (movable(j, List.of())) {
            return 0;
        }
        for (Arm a : running) {
            if (movable(j, List.of(a))) {
                return 1;
            }
        }
        for (Arm a : running) {
            for (Arm b : running) {
                if (a != b && movable(j, List.of(a, b))) {
                    return 2;
                }
            }
        }
        return NOT;
    }

    private boolean oneBehind(Job a, Job b) {
        boolean[] taken = new boolean[16];
        List<int[]> one = asked(a);
        List<int[]> other = asked(b);
        return place(w, a.account, one, widestFirst(one), w.now, List.of(a, b), List.of(), taken) != null
            && place(w, b.account, other, widestFirst(other), w.now, List.of(a, b), List.of(), taken) != null;
    }

    int together(int a, int b) {
        Job x = job(a);
        Job y = job(b);
        if (x == null || y == null || x == y) {
            return BAD;
        }
        if (x.state != 0 || y.state != 0) {
            return STATE;
        }
        return (oneBehind(x, y) ? 1 : 0) + (oneBehind(y, x) ? 2 : 0);
    }

    int gap(int column, int i, int what) {
        if (bad(column, 0, 15) || i < 0 || bad(what, 0, 1)) {
            return BAD;
        }
        int last = lastChange(w) + 1;
        int gaps = -1;
        boolean before = false;
        int begin = 0;
        for (int t = w.now; t <= last; t++) {
            boolean is = free(w, -9, t, 1, List.of(), List.of())[column];
            if (is && !before) {
                gaps++;
                begin = t;
            }
            if (!is && before && gaps == i) {
                return what == 0 ? begin : t - begin;
            }
            before = is;
        }
        return gaps < i ? NOT : what == 0 ? begin : NOT;
    }

    private int ordersFrom(Job j, int t, List<Integer> chosen) {
        if (chosen.size() == j.arms.size()) {
            int[] order = chosen.stream().mapToInt(i -> i).toArray();
            return place(w, j.account, asked(j), order, t, List.of(j), List.of(), new boolean[16]) != null ? 1 : 0;
        }
        int n = 0;
        for (int i = 0; i < j.arms.size(); i++) {
            if (!chosen.contains(i)) {
                List<Integer> more = new ArrayList<>(chosen);
                more.add(i);
                n += ordersFrom(j, t, more);
            }
        }
        return n;
    }

    int orders(int job, int tick) {
        Job j = job(job);
        if (j == null || tick < w.now || tick > w.now + 20000) {
            return BAD;
        }
        return j.state != 0 ? STATE : ordersFrom(j, tick, List.of());
    }

    int costs(int account, int rank, int what) {
        if (bad(account, 0, 7) || bad(rank, 0, 9) || bad(what, 0, 1)) {
            return BAD;
        }
        if (w.jobs.size() == 80) {
            return FULL;
        }
        int[] fault = new int[1];
        List<int[]> arms = read(fault);
        if (arms == null) {
            return -100 - fault[0];
        }
        World without = thought(w);
        World with = thought(w);
        Job j = come(with, arms, account, rank, 100, -1);
        goBy(with);
        if (what == 0) {
            return orNot(j.start);
        }
        goBy(without);
        int sum = 0;
        for (Job k : without.jobs) {
            int later = with.jobs.get(k.number).start;
            if (w.jobs.get(k.number).state == 0 && k.start >= 0 && later > k.start) {
                sum += later - k.start;
            }
        }
        return sum;
    }

    int earliest(int account) {
        if (bad(account, 0, 7)) {
            return BAD;
        }
        int[] fault = new int[1];
        List<int[]> arms = read(fault);
        return arms == null ? -100 - fault[0] : orNot(search(w, account, arms, w.now, w.now + 20000));
    }

    int holes(int tick, int n, int what) {
        if (tick < w.now || bad(n, 1, 500) || bad(what, 0, 1)) {
            return BAD;
        }
        boolean[] is = free(w, -9, tick, n, List.of(), List.of());
        int all = 0;
        int longest = 0;
        for (int c = 0; c < 16; c++) {
            all += is[c] ? 1 : 0;
            int e = c;
            while (e < 16 && is[e]) {
                e++;
            }
            longest = Math.max(longest, e - c);
        }
        return what == 0 ? all : longest;
    }

    long led(int what) {
        return bad(what, 0, 7) ? BAD : w.led[what];
    }

    int chart(int column, int back) {
        if (bad(column, 0, 15) || bad(back, 1, 64)) {
            return BAD;
        }
        return back > w.charts.size() ? NOT : orNot(w.charts.get(w.charts.size() - back)[column]);
    }

    int event(int i, int what) {
        if (i < 0 || bad(what, 0, 2)) {
            return BAD;
        }
        int kept = Math.min(60, w.events.size());
        return i >= kept ? NOT : w.events.get(w.events.size() - kept + i)[what];
    }

    int started(int i) {
        return i < 0 ? BAD : i < w.starts.size() ? w.starts.get(i) : NOT;
    }

    int image() {
        image = copy(w);
        return w.now;
    }

    int back() {
        w = copy(image);
        return w.now;
    }

    int count(int what) {
        int waiting = 0;
        int running = 0;
        int held = 0;
        int promises = 0;
        for (Job j : w.jobs) {
            waiting += j.state == 0 ? 1 : 0;
            running += j.state == 1 ? 1 : 0;
            promises += j.promise >= 0 ? 1 : 0;
            for (Arm a : j.arms) {
                held += a.holds ? a.wide : 0;
            }
        }
        int[] all = {w.jobs.size(), waiting, running, w.spans.size(), held, tape.length(), promises, w.now};
        return bad(what, 0, 7) ? BAD : all[what];
    }
}
