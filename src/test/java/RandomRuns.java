import java.util.ArrayList;
import java.util.List;

/** Runs of calls by chance (with fixed seeds) on the program and on the Oracle: all answers must be alike. */
public final class RandomRuns {
    private static final String[] NAMES = {"weight", "limit", "ranked", "rule", "used", "feed", "job", "off", "of",
        "arm", "line", "rank", "hold", "text", "keep", "every", "free", "step", "pass", "holder", "promised",
        "foretell", "plan", "byRule", "shrunk", "moves", "together", "gap", "orders", "costs", "earliest", "holes",
        "led", "chart", "event", "started", "image", "back", "count"};
    private static final int[] OFTEN = {6, 5, 6, 6, 8, 4, 60, 5, 25, 20, 10, 6, 6, 8, 10, 6, 4, 50, 10, 10, 20,
        6, 3, 3, 14, 16, 16, 16, 14, 4, 14, 10, 14, 14, 16, 8, 2, 1, 16};

    private final GangColumns x = new GangColumns();
    private final Oracle o = new Oracle();
    private final List<String> calls = new ArrayList<>();
    private final boolean thoughtful;
    private final boolean farSpans;
    private final boolean calm;
    private final int mostWide;
    private long seed;
    private boolean alike = true;

    private RandomRuns(long seed) {
        this.seed = seed * 2862933555777941757L + 3037000493L;
        thoughtful = chance(60);
        farSpans = !thoughtful && chance(40);
        calm = chance(40);
        mostWide = chance(50) ? 6 : 16;
    }

    private int below(int n) {
        seed = seed * 6364136223846793005L + 1442695040888963407L;
        return (int) ((seed >>> 33) % n);
    }

    private boolean chance(int percent) {
        return below(100) < percent;
    }

    /** A number from 0 to n - 1, at times one that is out of its bounds. */
    private int about(int n) {
        int strange = below(40);
        if (strange == 0) {
            return -1 - below(2);
        }
        if (strange == 1) {
            return n + below(2);
        }
        if (strange == 2 && chance(10)) {
            return chance(50) ? Integer.MAX_VALUE : Integer.MIN_VALUE;
        }
        return n < 1 ? 0 : below(n);
    }

    private int someJob() {
        return about(o.count(0));
    }

    private int waitingJob() {
        for (int i = 0; i < 12; i++) {
            int j = someJob();
            if (o.of(j, 0) == 0) {
                return j;
            }
        }
        return someJob();
    }

    private void tell(String text) {
        for (int i = 0; i < text.length(); i++) {
            check("feed", text.charAt(i));
        }
    }

    private String text() {
        StringBuilder s = new StringBuilder();
        int arms = chance(3) ? 5 : 1 + below(below(4) + 1);
        for (int i = 0; i < arms; i++) {
            s.append(i > 0 ? "," : "");
            s.append(1 + below(1 + below(chance(90) ? mostWide / (arms > 2 ? 2 : 1) : 17)));
            s.append('x');
            s.append(chance(97) ? 1 + below(1 + below(chance(80) ? 60 : 200)) : below(1200));
        }
        if (chance(4)) {
            int at = below(s.length() + 1);
            s.insert(at, "0x,9 a-1".charAt(below(8)));
        }
        if (chance(2)) {
            s.setLength(below(s.length()));
        }
        return s.toString();
    }

    private int spanAb() {
        int a = below(16);
        return chance(96) ? 100 * a + a + below(16 - a) : about(1700);
    }

    private int soon() {
        return o.count(7) + (chance(3) ? -1 : below(1 + below(chance(80) ? 40 : 300)));
    }

    private void check(String name, int... a) {
        long want = oracle(name, a);
        long got = program(name, a);
        StringBuilder s = new StringBuilder(name).append('(');
        for (int i = 0; i < a.length; i++) {
            s.append(i > 0 ? ", " : "").append(a[i]);
        }
        calls.add(s.append(") = ").append(got).toString());
        if (got != want) {
            alike = false;
            calls.add("  the oracle says " + want);
        }
    }

    private void go() {
        int all = 0;
        for (int often : OFTEN) {
            all += often;
        }
        for (int i = 0; i < 512 && alike; i++) {
            int r = below(all);
            int k = 0;
            while (r >= OFTEN[k]) {
                r -= OFTEN[k];
                k++;
            }
            oneCall(NAMES[k]);
        }
    }

    private void oneCall(String name) {
        int now = o.count(7);
        switch (name) {
            case "weight" -> check(name, about(8), about(101));
            case "limit" -> check(name, about(8), chance(50) ? 16 : about(17));
            case "ranked", "used" -> check(name, about(8));
            case "rule" -> {
                int what = about(3);
                check(name, what, what == 0 ? about(5) : what == 1 ? about(chance(70) ? 6 : 81) : about(30));
            }
            case "feed" -> check(name, chance(20) ? about(127) : "0123456789x,".charAt(below(12)));
            case "job" -> {
                if (calm && chance(60)) {
                    return;
                }
                tell(text());
                int after = chance(75) ? -1 : someJob();
                check(name, about(8), chance(60) ? 5 : about(10), chance(40) ? 100 : 1 + about(150), after);
            }
            case "off" -> check(name, someJob());
            case "of" -> check(name, someJob(), about(11));
            case "arm" -> check(name, someJob(), about(2), about(5));
            case "line" -> check(name, about(12) - 1);
            case "rank" -> check(name, waitingJob(), about(10));
            case "hold" -> check(name, waitingJob(), about(2));
            case "text" -> check(name, someJob(), about(34) - 1);
            default -> oneMoreCall(name, now);
        }
    }

    private void oneMoreCall(String name, int now) {
        switch (name) {
            case "keep" -> {
                int from = soon();
                int len = farSpans && chance(40) ? below(31000) : below(60);
                check(name, spanAb(), from, from + len, about(9) - 1);
            }
            case "every" -> {
                int len = below(20);
                check(name, spanAb(), soon(), len, len + about(20), about(7), about(9) - 1);
            }
            case "free" -> check(name, about(12));
            case "step" -> check(name, chance(90) ? 1 + below(1 + below(20)) : about(101));
            case "pass", "image", "back" -> check(name);
            case "holder" -> check(name, about(16));
            case "promised" -> check(name, about(16), soon());
            case "foretell" -> check(thoughtful ? name : "shrunk", waitingJob());
            case "plan" -> {
                if (thoughtful) {
                    check(name, about(12) - 1);
                }
            }
            case "byRule" -> {
                int rule = about(3);
                if (thoughtful) {
                    check(name, rule, about(rule == 0 ? 5 : 20), about(3));
                }
            }
            case "costs" -> {
                tell(text());
                check(thoughtful || o.count(0) == 80 ? name : "earliest", thoughtful || o.count(0) == 80
                    ? new int[] {about(8), about(10), about(2)} : new int[] {about(8)});
            }
            case "shrunk", "moves" -> check(name, waitingJob());
            case "together" -> check(name, waitingJob(), waitingJob());
            default -> oneLastCall(name, now);
        }
    }

    private void oneLastCall(String name, int now) {
        switch (name) {
            case "gap" -> check(name, about(16), chance(70) ? 0 : about(5), about(2));
            case "orders" -> check(name, waitingJob(), chance(60) ? now : chance(90) ? soon() : now + about(20001));
            case "earliest" -> {
                tell(text());
                check(name, about(8));
            }
            case "holes" -> check(name, soon(), 1 + about(chance(50) ? 20 : 500), about(2));
            case "led" -> check(name, about(8));
            case "chart" -> check(name, about(16), 1 + about(64));
            case "event" -> check(name, about(60), about(3));
            case "started" -> check(name, about(40));
            case "count" -> check(name, about(8));
            default -> throw new IllegalStateException(name);
        }
    }

    private long oracle(String n, int[] a) {
        return switch (n) {
            case "weight" -> o.weight(a[0], a[1]);
            case "limit" -> o.limit(a[0], a[1]);
            case "ranked" -> o.ranked(a[0]);
            case "rule" -> o.rule(a[0], a[1]);
            case "used" -> o.used(a[0]);
            case "feed" -> o.feed(a[0]);
            case "job" -> o.job(a[0], a[1], a[2], a[3]);
            case "off" -> o.off(a[0]);
            case "of" -> o.of(a[0], a[1]);
            case "arm" -> o.arm(a[0], a[1], a[2]);
            case "line" -> o.line(a[0]);
            case "rank" -> o.rank(a[0], a[1]);
            case "hold" -> o.hold(a[0], a[1]);
            case "text" -> o.text(a[0], a[1]);
            case "keep" -> o.keep(a[0], a[1], a[2], a[3]);
            case "every" -> o.every(a[0], a[1], a[2], a[3], a[4], a[5]);
            case "free" -> o.free(a[0]);
            case "step" -> o.step(a[0]);
            case "pass" -> o.pass();
            case "holder" -> o.holder(a[0]);
            case "promised" -> o.promised(a[0], a[1]);
            case "foretell" -> o.foretell(a[0]);
            case "plan" -> o.plan(a[0]);
            case "byRule" -> o.byRule(a[0], a[1], a[2]);
            case "shrunk" -> o.shrunk(a[0]);
            case "moves" -> o.moves(a[0]);
            case "together" -> o.together(a[0], a[1]);
            case "gap" -> o.gap(a[0], a[1], a[2]);
            case "orders" -> o.orders(a[0], a[1]);
            case "costs" -> o.costs(a[0], a[1], a[2]);
            case "earliest" -> o.earliest(a[0]);
            case "holes" -> o.holes(a[0], a[1], a[2]);
            case "led" -> o.led(a[0]);
            case "chart" -> o.chart(a[0], a[1]);
            case "event" -> o.event(a[0], a[1]);
            case "started" -> o.started(a[0]);
            case "image" -> o.image();
            case "back" -> o.back();
            case "count" -> o.count(a[0]);
            default -> throw new IllegalStateException(n);
        };
    }

    private long program(String n, int[] a) {
        return switch (n) {
            case "weight" -> x.weight(a[0], a[1]);
            case "limit" -> x.limit(a[0], a[1]);
            case "ranked" -> x.ranked(a[0]);
            case "rule" -> x.rule(a[0], a[1]);
            case "used" -> x.used(a[0]);
            case "feed" -> x.feed(a[0]);
            case "job" -> x.job(a[0], a[1], a[2], a[3]);
            case "off" -> x.off(a[0]);
            case "of" -> x.of(a[0], a[1]);
            case "arm" -> x.arm(a[0], a[1], a[2]);
            case "line" -> x.line(a[0]);
            case "rank" -> x.rank(a[0], a[1]);
            case "hold" -> x.hold(a[0], a[1]);
            case "text" -> x.text(a[0], a[1]);
            case "keep" -> x.keep(a[0], a[1], a[2], a[3]);
            case "every" -> x.every(a[0], a[1], a[2], a[3], a[4], a[5]);
            case "free" -> x.free(a[0]);
            case "step" -> x.step(a[0]);
            case "pass" -> x.pass();
            case "holder" -> x.holder(a[0]);
            case "promised" -> x.promised(a[0], a[1]);
            case "foretell" -> x.foretell(a[0]);
            case "plan" -> x.plan(a[0]);
            case "byRule" -> x.byRule(a[0], a[1], a[2]);
            case "shrunk" -> x.shrunk(a[0]);
            case "moves" -> x.moves(a[0]);
            case "together" -> x.together(a[0], a[1]);
            case "gap" -> x.gap(a[0], a[1], a[2]);
            case "orders" -> x.orders(a[0], a[1]);
            case "costs" -> x.costs(a[0], a[1], a[2]);
            case "earliest" -> x.earliest(a[0]);
            case "holes" -> x.holes(a[0], a[1], a[2]);
            case "led" -> x.led(a[0]);
            case "chart" -> x.chart(a[0], a[1]);
            case "event" -> x.event(a[0], a[1]);
            case "started" -> x.started(a[0]);
            case "image" -> x.image();
            case "back" -> x.back();
            case "count" -> x.count(a[0]);
            default -> throw new IllegalStateException(n);
        };
    }

    public static void main(String[] args) {
        int first = args.length > 0 ? Integer.parseInt(args[0]) : 1;
        int runs = args.length > 1 ? Integer.parseInt(args[1]) : 120;
        for (int r = first; r < first + runs; r++) {
            RandomRuns run = new RandomRuns(r);
            run.go();
            if (!run.alike) {
                System.out.println("run " + r + " is not alike:");
                run.calls.forEach(System.out::println);
                System.exit(1);
            }
        }
        System.out.println(runs + " runs by chance: all answers are alike");
    }
}
