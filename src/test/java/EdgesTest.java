/**
 * The edges that the document names in promises 1 to 22, each just inside and just outside, worked out by
 * hand; and that a refused call leaves all as it was.
 */
public final class EdgesTest {
    private static final int BAD = Play.BAD, NOT = Play.NOT, FULL = Play.FULL, STATE = Play.STATE;
    private static final int MOST = Play.MOST, LEAST = Play.LEAST;
    private static final int DONE_ONE = Play.DONE_ONE, CUT_ONE = Play.CUT_ONE, RUNS = Play.RUNS, WAITS = Play.WAITS,
        WAITS_AFTER = Play.WAITS_AFTER, HELD = Play.HELD, OFF_ONE = Play.OFF_ONE;
    private static final Checks CHECKS = new Checks("EdgesTest");

    private static Play begin(String about) {
        return new Play(CHECKS, about);
    }

    private static Play busy(String about) {
        return Play.busy(CHECKS, about);
    }

    private static void busyScene() {
        Play p = busy("the scene of the refused calls");
        int[] want = {2, 3, 1, 0, 0, 0, 4};
        for (int j = 0; j < want.length; j++) {
            p.due("of(" + j + ", 0)", p.x.of(j, 0), want[j]);
        }
        p.due("count(6)", p.x.count(6), 1);
        p.due("count(5)", p.x.count(5), 2);
    }

    // ---- 1

    private static void newObject() {
        Play p = begin("1 a new object: each list is empty");
        GangColumns x = p.x;
        p.due("of(0, 0)", x.of(0, 0), BAD);
        p.due("arm(0, 0, 0)", x.arm(0, 0, 0), BAD);
        p.due("text(0, -1)", x.text(0, -1), BAD);
        p.due("off(0)", x.off(0), BAD);
        p.due("rank(0, 5)", x.rank(0, 5), BAD);
        p.due("hold(0, 1)", x.hold(0, 1), BAD);
        p.due("foretell(0)", x.foretell(0), BAD);
        p.due("shrunk(0)", x.shrunk(0), BAD);
        p.due("moves(0)", x.moves(0), BAD);
        p.due("together(0, 1)", x.together(0, 1), BAD);
        p.due("orders(0, 0)", x.orders(0, 0), BAD);
        p.due("free(0)", x.free(0), BAD);
        p.due("line(-1)", x.line(-1), 0);
        p.due("line(0)", x.line(0), NOT);
        p.due("plan(-1)", x.plan(-1), 0);
        p.due("plan(0)", x.plan(0), NOT);
        p.due("byRule(0, 0, 0)", x.byRule(0, 0, 0), 0);
        p.due("byRule(0, 0, 1)", x.byRule(0, 0, 1), 0);
        p.due("byRule(0, 0, 2)", x.byRule(0, 0, 2), NOT);
        p.due("event(0, 0)", x.event(0, 0), NOT);
        p.due("started(0)", x.started(0), NOT);
        for (int c = 0; c < 16; c++) {
            p.due("holder", x.holder(c), NOT);
            p.due("promised", x.promised(c, 0), NOT);
            p.due("chart", x.chart(c, 1), NOT);
            p.due("gap 0", x.gap(c, 0, 0), 0);
            p.due("gap 0 has no end", x.gap(c, 0, 1), NOT);
            p.due("gap 1", x.gap(c, 1, 0), NOT);
        }
        p.due("holes(0, 500, 0)", x.holes(0, 500, 0), 16);
        p.due("holes(0, 500, 1)", x.holes(0, 500, 1), 16);
        p.changesNothing("job of an empty THE TAPE", () -> x.job(0, 0, 1, -1), -100);
        p.changesNothing("costs of an empty THE TAPE", () -> x.costs(0, 0, 0), -100);
        p.changesNothing("earliest of an empty THE TAPE", () -> x.earliest(0), -100);
        p.changesNothing("back", x::back, 0);
        p.changesNothing("image", x::image, 0);
        p.due("pass", x.pass(), 0);
    }

    // ---- 2 to 6

    private static void weights() {
        Play p = begin("2 weight: 1 and 100 of each ACCOUNT");
        for (int a = 0; a < 8; a++) {
            p.due("weight to 1", p.x.weight(a, 1), 10);
            p.due("weight to 100", p.x.weight(a, 100), 1);
        }
        for (int a = 0; a < 8; a++) {
            p.due("weight is of its own ACCOUNT", p.x.weight(a, 10), 100);
        }
        Play q = busy("2 weight: refused");
        int[][] wrong = {{3, 0}, {3, 101}, {-1, 10}, {8, 10}, {3, -1}, {3, MOST}, {3, LEAST}, {MOST, 1}, {LEAST, 1}};
        for (int[] w : wrong) {
            q.refused("weight(" + w[0] + ", " + w[1] + ")", () -> q.x.weight(w[0], w[1]), BAD);
        }
    }

    private static void limits() {
        Play p = begin("3 limit: 0 and 16 of each ACCOUNT");
        for (int a = 0; a < 8; a++) {
            p.due("limit to 0", p.x.limit(a, 0), 16);
            p.due("limit to 16", p.x.limit(a, 16), 0);
            p.due("limit to 15", p.x.limit(a, 15), 16);
        }
        Play q = busy("3 limit: refused");
        int[][] wrong = {{3, -1}, {3, 17}, {-1, 5}, {8, 5}, {3, MOST}, {3, LEAST}, {MOST, 1}, {LEAST, 1}};
        for (int[] w : wrong) {
            q.refused("limit(" + w[0] + ", " + w[1] + ")", () -> q.x.limit(w[0], w[1]), BAD);
        }
        for (int limit = 3; limit <= 6; limit++) {
            Play r = begin("3 limit: just as many COLUMNS as " + limit);
            r.x.limit(7, limit);
            r.job(7, "2x5,2x5");
            r.job(7, "1x5");
            r.job(7, "1x5");
            // 4 start by 4 and more; by 3 the two of 1 start
            r.due("pass", r.x.pass(), limit == 3 ? 2 : limit - 3);
            r.due("of(0, 0)", r.x.of(0, 0), limit == 3 ? 0 : 1);
            r.due("count(4)", r.x.count(4), limit == 3 ? 2 : limit);
            r.due("count(6): none passed over has a PROMISE", r.x.count(6), 0);
        }
        Play r = begin("3 limit: all 16 COLUMNS by 16, the last one not by 15");
        r.job(7, "8x5,8x5");
        r.x.limit(7, 15);
        r.due("pass", r.x.pass(), 0);
        r.x.limit(7, 16);
        r.due("pass", r.x.pass(), 1);
    }

    private static void limitOfOneColumnWide() {
        Play p = begin("3 limit: an ARM on the last COLUMN alone counts");
        p.x.keep(14, 0, 9, -1);
        p.x.limit(7, 1);
        p.job(7, "1x5");
        p.job(7, "1x5");
        p.x.step(1);
        p.due("holder(15)", p.x.holder(15), 0);
        p.x.free(0);
        p.due("pass", p.x.pass(), 0);
        p.x.limit(7, 2);
        p.due("pass", p.x.pass(), 1);
    }

    private static void rankedOnes() {
        Play p = begin("4 ranked: like fractions of other numbers, by number");
        p.x.weight(2, 20);
        p.x.weight(7, 40);
        p.job(7, "8x1");
        p.job(2, "4x1");
        p.job(5, "2x1");
        p.x.step(1);
        // 4/20, 8/40 and 2/10 are alike
        int[] want = {0, 1, 3, 4, 6, 2, 5, 7};
        for (int i = 0; i < 8; i++) {
            p.due("ranked(" + i + ")", p.x.ranked(i), want[i]);
        }
        p.x.weight(7, 41);
        p.due("ranked(5): 8/41 is less", p.x.ranked(5), 7);
        p.x.weight(7, 39);
        p.x.weight(5, 11);
        p.due("ranked(5): 2/11 is least", p.x.ranked(5), 5);
        p.due("ranked(7): 8/39 is most", p.x.ranked(7), 7);
        int[] wrong = {-1, 8, MOST, LEAST};
        for (int w : wrong) {
            p.due("ranked(" + w + ")", p.x.ranked(w), BAD);
            p.due("used(" + w + ")", p.x.used(w), BAD);
        }
    }

    private static void rules() {
        Play p = busy("5 rule: refused");
        int[][] wrong = {{0, -1}, {0, 5}, {1, -1}, {1, 81}, {2, -1}, {2, 101}, {-1, 0}, {3, 0}, {MOST, 0}, {LEAST, 0},
            {0, MOST}, {1, LEAST}};
        for (int[] w : wrong) {
            p.refused("rule(" + w[0] + ", " + w[1] + ")", () -> p.x.rule(w[0], w[1]), BAD);
        }
        int[] first = {1, 80, 0};
        int[] most = {4, 80, 100};
        for (int what = 0; what < 3; what++) {
            p.due("rule " + what + " to 0", p.x.rule(what, 0), first[what]);
            p.due("rule " + what + " to its most", p.x.rule(what, most[what]), 0);
            p.due("rule " + what + " to 1", p.x.rule(what, 1), most[what]);
        }
    }

    private static void depths() {
        for (int depth = 0; depth <= 4; depth++) {
            Play p = begin("5 rule: DEPTH " + depth);
            p.x.rule(0, depth);
            p.job(0, "16x50");
            for (int i = 1; i < 7; i++) {
                p.job(i, "16x2");
            }
            p.due("pass", p.x.pass(), 1);
            p.due("count(6)", p.x.count(6), depth);
            for (int i = 1; i < 7; i++) {
                p.due("of(" + i + ", 9)", p.x.of(i, 9), i <= depth ? 48 + 2 * i : NOT);
            }
            p.due("promised(15, " + (49 + 2 * depth) + ")", p.x.promised(15, 49 + 2 * depth),
                depth == 0 ? NOT : depth);
            p.due("promised(15, " + (50 + 2 * depth) + ")", p.x.promised(15, 50 + 2 * depth), NOT);
        }
        Play p = begin("5 rule: one passed over, and one that finds no tick, do not use up DEPTH");
        p.x.keep(0, 0, 25000, 3);
        p.job(0, "15x50");
        p.job(1, "9x1,8x1");
        p.job(2, "16x2");
        p.job(3, "16x2");
        p.job(4, "15x2");
        p.due("pass", p.x.pass(), 1);
        p.dueAll("PROMISES", new long[] {p.x.of(1, 9), p.x.of(2, 9), p.x.of(3, 9), p.x.of(4, 9)}, NOT, NOT, 50, NOT);
        p.due("count(6)", p.x.count(6), 1);
    }

    private static void windows() {
        for (int window = 0; window <= 4; window++) {
            Play p = begin("5 rule: WINDOW " + window);
            p.x.rule(1, window);
            p.job(0, "15x50");
            p.job(1, "2x1");
            p.job(2, "2x1");
            p.job(3, "2x1");
            p.job(4, "1x1");
            // 4 is the third one behind 1, which is the first that did not START
            p.due("pass", p.x.pass(), window < 3 ? 1 : 2);
            p.due("led(4)", p.x.led(4), window < 3 ? 0 : 1);
        }
        for (int window = 77; window <= 78; window++) {
            Play p = begin("5 rule: WINDOW " + window + " of 80 JOBS");
            p.x.rule(0, 0);
            p.x.rule(1, window);
            p.job(0, "15x50");
            for (int i = 1; i < 79; i++) {
                p.job(1 + i % 7, "2x1");
            }
            // 79 is the 78th one behind 1
            p.job(7, "1x1");
            p.due("pass", p.x.pass(), window - 76);
        }
        for (int window = 0; window <= 1; window++) {
            Play p = begin("5 rule: who is passed over by LIMIT is not looked at, WINDOW " + window);
            p.x.rule(1, window);
            p.x.limit(5, 0);
            p.job(0, "14x50");
            p.job(5, "1x1");
            p.job(1, "1x1");
            p.job(2, "2x1");
            p.job(5, "1x1");
            p.job(3, "1x1");
            // 1 is not the first that did not START, and 4 is not the first one behind 3, which is
            p.due("pass", p.x.pass(), 2 + window);
            p.dueAll("of(2, 0), of(5, 0)", new long[] {p.x.of(2, 0), p.x.of(5, 0)}, 1, window);
            p.due("led(4)", p.x.led(4), window);
        }
        Play p = begin("5 rule: by WINDOW 0 those ahead of the first stuck one START");
        p.x.rule(1, 0);
        p.job(0, "5x9");
        p.job(1, "5x9");
        p.job(2, "7x9");
        p.job(3, "1x9");
        p.due("pass", p.x.pass(), 2);
        p.due("of(2, 9)", p.x.of(2, 9), 9);
        p.due("of(3, 9)", p.x.of(3, 9), NOT);
    }

    private static void periods() {
        Play p = begin("5 rule: PERIOD 1, of the first and the last ACCOUNT");
        p.x.rule(2, 1);
        p.job(0, "1x200");
        p.job(7, "15x200");
        long[] want = {7, 11, 13, 14, 14};
        for (int i = 0; i < want.length; i++) {
            p.x.step(1);
            p.due("used(0): (0 + 1) / 2", p.x.used(0), 0);
            p.due("used(7) at " + (i + 1), p.x.used(7), want[i]);
        }
        Play q = begin("5 rule: PERIOD 100");
        q.x.rule(2, 100);
        q.job(7, "1x200");
        q.x.step(99);
        q.due("used(7) at 99", q.x.used(7), 99);
        q.x.step(1);
        q.due("used(7) at 100: the tick that went by is in it", q.x.used(7), 50);
        q.x.step(1);
        q.due("used(7) at 101", q.x.used(7), 51);
        q.x.step(98);
        q.due("used(7) at 199", q.x.used(7), 149);
        q.x.step(1);
        q.due("used(7) at 200", q.x.used(7), 75);
        Play r = begin("5 rule: PERIOD 0 never halves, PERIOD 7 just when it divides NOW");
        r.job(1, "1x50");
        r.x.step(13);
        r.due("used(1)", r.x.used(1), 13);
        r.x.rule(2, 7);
        r.x.step(1);
        r.due("used(1) at 14", r.x.used(1), 7);
        r.x.step(6);
        r.due("used(1) at 20", r.x.used(1), 13);
        r.x.step(1);
        r.due("used(1) at 21", r.x.used(1), 7);
        r.x.rule(2, 0);
        r.x.step(7);
        r.due("used(1) at 28", r.x.used(1), 14);
    }

    // ---- 7, 8

    private static void tape() {
        Play p = begin("7 feed: 32 and 126, 31 and 127, 60 and 61");
        int[] wrong = {31, 127, -1, 0, 128, MOST, LEAST};
        for (int w : wrong) {
            p.refused("feed(" + w + ") on an empty one", () -> p.x.feed(w), BAD);
        }
        for (int i = 1; i <= 60; i++) {
            p.due("feed", p.x.feed(i % 2 == 0 ? 32 : 126), i);
        }
        p.refused("a 61st", () -> p.x.feed(32), FULL);
        p.refused("a 61st", () -> p.x.feed(126), FULL);
        for (int w : wrong) {
            p.refused("feed(" + w + ") on a full one", () -> p.x.feed(w), BAD);
        }
        p.due("job of 60 bytes", p.x.job(0, 0, 1, -1), -100);
        p.due("feed begins anew", p.x.feed('1'), 1);
        p.tell("x1,2x2");
        p.due("what was on it is gone", p.x.job(0, 0, 1, -1), 0);
        p.holds("its text", p.text(0).equals("0:a0 r0 1x1,2x2"));
    }

    private static void faults() {
        Play p = begin("8 job: FAULTS");
        Object[][] texts = {
            // a number that may not be: where it begins
            {"0", 0}, {"00", 0}, {"000", 0}, {"17", 0}, {"17x", 0}, {"999", 0}, {"017", 0}, {"100x1", 0},
            {"1x0", 2}, {"1x00", 2}, {"1x000", 2}, {"1x201", 2}, {"1x999", 2}, {"16x201,", 3}, {"016x201", 4},
            {"1x1,0x1", 4}, {"1x1,17x1", 4}, {"1x1,16x0", 7}, {"1x1,1x1,1x1,1x201", 14}, {"1x1,1x1,1x1,17x1", 12},
            // a fourth figure is the first byte with which no TEXT goes on, if the three may be
            {"0001", 0}, {"0010", 3}, {"0161", 3}, {"0171", 0}, {"1000x1", 0}, {"1x0001", 2}, {"1x0011", 5},
            {"1x2000", 5}, {"1x2010", 2}, {"1x1999", 5}, {"016x2001", 7}, {"1x1,0011", 7},
            // another byte
            {"x", 0}, {",", 0}, {" ", 0}, {"-1x1", 0}, {"+1x1", 0}, {"/x1", 0}, {":x1", 0}, {"1,", 1}, {"1 x1", 1},
            {"1X1", 1}, {"1xx1", 2}, {"1x,", 2}, {"1x-1", 2}, {"1x/", 2}, {"1x:", 2}, {"1x1x", 3}, {"1x1 ", 3},
            {"1x1.", 3}, {"1x1-", 3}, {"1x1,,", 4}, {"1x1, 1x1", 4}, {"1x1,x", 4}, {"1x1,1,", 5},
            // it ends too early: the length
            {"", 0}, {"1", 1}, {"16", 2}, {"016", 3}, {"1x", 2}, {"016x", 4}, {"1x1,", 4}, {"1x1,2", 5},
            {"1x1,2x", 6},
            {"1x200,", 6}, {"1x1,1x1,1x1,", 12}, {"1x1,1x1,1x1,1x", 14},
            // the , ahead of a fifth ARM
            {"1x1,1x1,1x1,1x1,", 15}, {"1x1,1x1,1x1,1x1,1x1", 15}, {"1x1,1x1,1x1,1x1,0", 15},
            {"1x1,1x1,1x1,1x1,,", 15},
            {"016x200,016x200,016x200,016x200,", 31}, {"1x1,1x1,1x1,1x1x", 15},
            // what stands behind the first FAULT does not matter
            {"1x1;17x999", 3}, {"1x201;", 2}, {"17y", 0}};
        for (Object[] t : texts) {
            int want = -100 - (Integer) t[1];
            p.tell((String) t[0]);
            p.changesNothing("job of '" + t[0] + "'", () -> p.x.job(0, 5, 100, -1), want);
            p.tell((String) t[0]);
            p.changesNothing("costs of '" + t[0] + "'", () -> p.x.costs(0, 5, 1), want);
            p.tell((String) t[0]);
            p.changesNothing("earliest of '" + t[0] + "'", () -> p.x.earliest(0), want);
        }
    }

    private static void longFaults() {
        Play p = begin("8 job: a full THE TAPE");
        StringBuilder s = new StringBuilder("1x1,1x1,1x1,1x1");
        while (s.length() < 60) {
            s.append(',');
        }
        p.due("commas", p.job(s.toString(), 0, 5, 100, -1), -115);
        p.due("blanks", p.job(" ".repeat(60), 0, 5, 100, -1), -100);
        p.due("16 and figures", p.job("016" + "1".repeat(57), 0, 5, 100, -1), -103);
        p.due("the longest TEXT", p.job("016x200,015x199,001x001,010x010", 0, 5, 100, -1), 0);
        p.holds("its text", p.text(0).equals("0:a0 r5 16x200,15x199,1x1,10x10"));
        p.due("its COLUMNS together", p.x.of(0, 10), 42);
        p.due("it never FITS", p.x.pass(), 0);
        p.due("it has no PROMISE", p.x.of(0, 9), NOT);
        p.due("the most COLUMNS", p.job("16x1,16x1,16x1,16x1", 0, 5, 100, -1), 1);
        p.due("of(1, 10)", p.x.of(1, 10), 64);
        p.due("just one of 16", p.job("16x1", 0, 5, 100, -1), 2);
        p.due("pass", p.x.pass(), 1);
    }

    private static void comingJobs() {
        Play p = busy("8 job: refused, THE TAPE stays");
        int[][] wrong = {{-1, 5, 100, -1}, {8, 5, 100, -1}, {0, -1, 100, -1}, {0, 10, 100, -1}, {0, 5, 0, -1},
            {0, 5, 151, -1}, {0, 5, 100, -2}, {0, 5, 100, 7}, {MOST, 5, 100, -1}, {0, MOST, 100, -1},
            {0, 5, MOST, -1},
            {0, 5, 100, MOST}, {LEAST, 5, 100, -1}, {0, LEAST, 100, -1}, {0, 5, LEAST, -1}, {0, 5, 100, LEAST},
            {-1, 5, 100, OFF_ONE}, {0, 5, 151, OFF_ONE}};
        for (int[] w : wrong) {
            p.refused("job(" + w[0] + ", " + w[1] + ", " + w[2] + ", " + w[3] + ")",
                () -> p.x.job(w[0], w[1], w[2], w[3]), BAD);
        }
        p.refused("behind one that is OFF, ahead of the FAULT", () -> p.x.job(0, 5, 100, OFF_ONE), STATE);
        p.due("THE TAPE stayed", p.x.count(5), 2);
        p.tell("1");
        for (int after = -1; after < OFF_ONE; after++) {
            p.due("behind " + after, p.x.job(0, 0, 1, after), 8 + after);
            p.due("of AFTER", p.x.of(8 + after, 4), after);
            p.tell("3x1");
        }
        p.due("ACCOUNT 7, RANK 9, PART 150, AFTER the one before", p.x.job(7, 9, 150, 13), 14);
        p.tell("3x1");
        p.due("AFTER itself", p.x.job(7, 9, 150, 15), BAD);
        p.due("AFTER the last", p.x.job(7, 9, 150, 14), 15);
    }

    private static void mostJobs() {
        Play p = begin("8 job: 80");
        for (int i = 0; i < 79; i++) {
            p.due("job", p.job(i % 8, "1x1"), i);
        }
        p.x.off(78);
        p.tell("1x1");
        p.refused("behind one that is OFF", () -> p.x.job(0, 5, 100, 78), STATE);
        p.due("the 80th", p.x.job(0, 5, 100, 77), 79);
        p.tell("zz");
        p.refused("an 81st, ahead of the FAULT", () -> p.x.job(0, 5, 100, -1), FULL);
        p.refused("an 81st behind one that is OFF", () -> p.x.job(0, 5, 100, 78), FULL);
        p.refused("an 81st that may not be", () -> p.x.job(0, 5, 100, 80), BAD);
        p.refused("costs of an 81st, ahead of the FAULT", () -> p.x.costs(0, 5, 0), FULL);
        p.refused("costs of an 81st that may not be", () -> p.x.costs(8, 5, 0), BAD);
        p.due("earliest is not refused", p.x.earliest(0), -100);
        p.tell("1x1");
        p.due("earliest of a TEXT", p.x.earliest(0), 0);
    }

    // ---- 9

    private static void takenOff() {
        Play p = busy("9 off: refused");
        int[] wrong = {-1, 7, MOST, LEAST};
        for (int w : wrong) {
            p.refused("off(" + w + ")", () -> p.x.off(w), BAD);
        }
        int[] ended = {DONE_ONE, CUT_ONE, OFF_ONE};
        for (int w : ended) {
            p.refused("off(" + w + ")", () -> p.x.off(w), STATE);
        }
        p.due("off of one HELD BACK", p.x.off(HELD), 1);
        p.due("count(6)", p.x.count(6), 1);
        p.due("off of one with a PROMISE", p.x.off(WAITS), 1);
        p.due("count(6)", p.x.count(6), 0);
        p.due("off of one that runs, and who is behind it", p.x.off(RUNS), 2);
        p.due("of(4, 0)", p.x.of(WAITS_AFTER, 0), 4);
        p.due("count(4)", p.x.count(4), 0);
        p.due("off makes no PASS", p.x.led(7), 4);
        Play q = begin("9 off: by numbers, each followed at once by those behind it");
        int[] after = {-1, 0, 1, 1, 0, 2, 4, -1, 5};
        for (int i = 0; i < after.length; i++) {
            q.job("1x1", 0, 5, 100, after[i]);
        }
        q.x.hold(3, 1);
        q.due("off(0)", q.x.off(0), 8);
        int[] order = {0, 1, 2, 5, 8, 3, 4, 6};
        for (int i = 0; i < order.length; i++) {
            q.due("event " + i, q.x.event(9 + i, 2), order[i]);
            q.due("its kind", q.x.event(9 + i, 1), 4);
        }
        q.due("of(7, 0)", q.x.of(7, 0), 0);
        q.due("led(3)", q.x.led(3), 8);
    }

    private static void allTakenOff() {
        Play p = begin("9 off: 80, each behind the one before");
        for (int i = 0; i < 80; i++) {
            p.job("1x1", 0, 5, 100, i - 1);
        }
        p.due("off(0)", p.x.off(0), 80);
        p.due("count(1)", p.x.count(1), 0);
        p.due("led(3)", p.x.led(3), 80);
        p.due("the last event", p.x.event(59, 2), 79);
        Play q = begin("9 off: 79 behind the first one");
        for (int i = 0; i < 80; i++) {
            q.job("1x1", 0, 5, 100, i == 0 ? -1 : 0);
        }
        q.x.step(1);
        q.due("they may START now", q.x.line(-1), 79);
        q.due("off of one that is DONE", q.x.off(0), STATE);
        q.x.back();
        for (int i = 0; i < 80; i++) {
            q.job("1x1", 0, 5, 100, i == 0 ? -1 : 0);
        }
        q.x.pass();
        q.due("off(0), which runs", q.x.off(0), 80);
        q.due("the first of the latest events", q.x.event(0, 2), 20);
        Play t = begin("9 off: who is OFF already is not OFF once more");
        t.job("1x1", 0, 5, 100, -1);
        t.job("1x1", 0, 5, 100, 0);
        t.job("1x1", 0, 5, 100, 1);
        t.job("1x1", 0, 5, 100, 0);
        t.dueAll("off", new long[] {t.x.off(1), t.x.off(0), t.x.led(3)}, 2, 2, 4);
        t.dueAll("its events", new long[] {t.x.event(6, 2), t.x.event(7, 2), t.x.event(8, 2)}, 0, 3, NOT);
        Play r = begin("9 off: behind one that is DONE they wait for none");
        r.job("1x1", 0, 5, 100, -1);
        r.job("1x1", 0, 5, 100, 0);
        r.job("1x1", 0, 5, 100, 1);
        r.x.step(1);
        r.due("off(1)", r.x.off(1), 2);
    }

    // ---- 10 to 15

    private static void ofAndArms() {
        Play p = busy("10, 11 of and arm: refused");
        int[][] wrong = {{-1, 0}, {7, 0}, {0, -1}, {0, 11}, {MOST, 0}, {LEAST, 0}, {0, MOST}, {0, LEAST}};
        for (int[] w : wrong) {
            p.due("of(" + w[0] + ", " + w[1] + ")", p.x.of(w[0], w[1]), BAD);
            p.due("arm(" + w[0] + ", 0, " + w[1] + ")", p.x.arm(w[0], 0, w[1]), BAD);
        }
        int[][] noArm = {{2, -1, 0}, {2, 2, 0}, {3, 1, 0}, {2, MOST, 0}, {2, LEAST, 0}, {2, 0, 5}, {2, 0, -1}};
        for (int[] w : noArm) {
            p.due("arm(" + w[0] + ", " + w[1] + ", " + w[2] + ")", p.x.arm(w[0], w[1], w[2]), BAD);
        }
        p.due("arm(2, 1, 0)", p.x.arm(2, 1, 0), 2);
        p.dueAll("of(0), DONE at 1", ofJob(p, DONE_ONE), 2, 0, 5, 50, -1, 1, 0, 1, NOT, NOT, 2);
        p.dueAll("of(1), CUT at 3", ofJob(p, CUT_ONE), 3, 1, 5, 150, -1, 1, 0, 3, NOT, NOT, 2);
        p.dueAll("of(2), RUNNING", ofJob(p, RUNS), 1, 2, 5, 100, -1, 2, 0, NOT, NOT, NOT, 5);
        p.dueAll("of(3), WAITING", ofJob(p, WAITS), 0, 3, 5, 100, -1, 1, NOT, NOT, 40, 40, 16);
        p.dueAll("of(4), behind 2", ofJob(p, WAITS_AFTER), 0, 4, 5, 100, 2, 1, NOT, NOT, NOT, NOT, 1);
        p.dueAll("of(6), OFF at 0", ofJob(p, OFF_ONE), 4, 6, 5, 100, -1, 1, NOT, 0, NOT, NOT, 1);
        p.dueAll("arm(6, 0), OFF ahead of its START", armOf(p, OFF_ONE, 0), 1, 7, 7, NOT, NOT);
        p.dueAll("arm(2, 0)", armOf(p, RUNS, 0), 3, 40, 40, 4, 40);
        p.x.off(RUNS);
        p.dueAll("arm(2, 0), OFF ahead of its END", armOf(p, RUNS, 0), 3, 40, 40, 4, 4);
        p.dueAll("of(2), OFF at 4", ofJob(p, RUNS), 4, 2, 5, 100, -1, 2, 0, 4, NOT, NOT, 5);
    }

    private static long[] ofJob(Play p, int job) {
        long[] got = new long[11];
        for (int what = 0; what < 11; what++) {
            got[what] = p.x.of(job, what);
        }
        return got;
    }

    private static long[] armOf(Play p, int job, int arm) {
        long[] got = new long[5];
        for (int what = 0; what < 5; what++) {
            got[what] = p.x.arm(job, arm, what);
        }
        return got;
    }

    private static void firstPromises() {
        Play p = begin("10 of: FIRST PROMISE stays, the PROMISE is of the latest PASS");
        p.job("16x9", 0, 5, 100, -1);
        p.job("16x9", 1, 5, 100, -1);
        p.x.pass();
        p.job("16x2", 2, 9, 100, -1);
        p.dueAll("of(1)", new long[] {p.x.of(1, 8), p.x.of(1, 9)}, 9, 9);
        p.x.pass();
        p.dueAll("of(1): the other one has it", new long[] {p.x.of(1, 8), p.x.of(1, 9)}, 9, NOT);
        p.dueAll("of(2)", new long[] {p.x.of(2, 8), p.x.of(2, 9)}, 9, 9);
        p.x.off(0);
        p.dueAll("of(2): it stays till the next PASS", new long[] {p.x.of(2, 8), p.x.of(2, 9)}, 9, 9);
        p.x.step(1);
        p.dueAll("of(2): it STARTED", new long[] {p.x.of(2, 8), p.x.of(2, 9)}, 9, NOT);
        p.dueAll("of(1)", new long[] {p.x.of(1, 8), p.x.of(1, 9)}, 9, 2);
    }

    private static void lasts() {
        Play p = begin("11 arm: LASTS is cut, 1 at least; CUT if it is above ASKS");
        // ASKS, PART, LASTS, how it ends: DONE 2, CUT 3
        int[][] rows = {{1, 1, 1, 2}, {199, 1, 1, 2}, {200, 1, 2, 2}, {1, 99, 1, 2}, {2, 50, 1, 2}, {3, 50, 1, 2},
            {4, 50, 2, 2}, {100, 99, 99, 2}, {200, 99, 198, 2}, {200, 100, 200, 2}, {99, 101, 99, 2},
            {100, 101, 101, 3}, {1, 150, 1, 2}, {2, 149, 2, 2}, {2, 150, 3, 3}, {200, 150, 300, 3}};
        for (int i = 0; i < rows.length; i++) {
            p.job("1x" + rows[i][0], i % 8, 5, rows[i][1], -1);
        }
        p.due("pass", p.x.pass(), 16);
        for (int i = 0; i < rows.length; i++) {
            p.due("LASTS of " + rows[i][0] + ", PART " + rows[i][1], p.x.arm(i, 0, 2), rows[i][2]);
            p.due("END", p.x.arm(i, 0, 4), Math.min(rows[i][0], rows[i][2]));
        }
        p.x.step(100);
        p.x.step(100);
        for (int i = 0; i < rows.length; i++) {
            p.due("of(" + i + ", 0)", p.x.of(i, 0), rows[i][3]);
            p.due("of(" + i + ", 7)", p.x.of(i, 7), Math.min(rows[i][0], rows[i][2]));
        }
    }

    private static void cutByAnArm() {
        String[] texts = {"2x10,1x1", "1x1,2x10", "1x1,2x10,1x1", "1x1,1x1,1x1"};
        for (int i = 0; i < texts.length; i++) {
            Play p = begin("11 arm: CUT if LASTS of any ARM is above its ASKS: " + texts[i]);
            p.job(texts[i], 0, 5, 150, -1);
            p.x.step(1);
            p.due("of(0, 0) at 1", p.x.of(0, 0), i < 3 ? 1 : 2);
            p.x.step(9);
            p.due("of(0, 0) at 10", p.x.of(0, 0), i < 3 ? 3 : 2);
            p.due("of(0, 7)", p.x.of(0, 7), i < 3 ? 10 : 1);
            p.dueAll("led", new long[] {p.x.led(1), p.x.led(2)}, i < 3 ? 0 : 1, i < 3 ? 1 : 0);
        }
    }

    private static void ends() {
        Play p = begin("11 arm: not with the tick of END; the JOB ends with its last ARM");
        p.job("1x4,2x2,3x3", 0, 5, 100, -1);
        // 3 wide 0-2, 2 wide 3-4, 1 wide 5
        int[][] held = {{0, 0, 0}, {0, 0, 0}, {0, NOT, 0}, {NOT, NOT, 0}, {NOT, NOT, NOT}};
        p.x.pass();
        for (int t = 0; t < 5; t++) {
            p.dueAll("holders at " + t, new long[] {p.x.holder(2), p.x.holder(3), p.x.holder(5)},
                held[t][0], held[t][1], held[t][2]);
            p.due("of(0, 0) at " + t, p.x.of(0, 0), t < 4 ? 1 : 2);
            p.due("of(0, 7) at " + t, p.x.of(0, 7), t < 4 ? NOT : 4);
            p.x.step(1);
        }
    }

    private static void endsOfFourArms() {
        Play p = begin("11 arm: of four ARMS none is another JOB's");
        for (int i = 0; i < 80; i++) {
            p.job("1x2,1x2,1x2,1x2", i % 8, 5, i % 2 == 0 ? 100 : 150, -1);
        }
        p.x.step(40);
        for (int i = 0; i < 80; i++) {
            p.due("of(" + i + ", 0)", p.x.of(i, 0), i % 2 == 0 ? 2 : 3);
            p.due("of(" + i + ", 7)", p.x.of(i, 7), 2 + 2 * (i / 4));
            p.due("arm(" + i + ", 3, 3)", p.x.arm(i, 3, 3), i % 4 * 4 + 3);
            p.due("arm(" + i + ", 3, 4)", p.x.arm(i, 3, 4), 2 + 2 * (i / 4));
            p.due("arm(" + i + ", 4, 0)", p.x.arm(i, 4, 0), BAD);
        }
    }

    private static void theLine() {
        Play p = begin("12 line: -2, -1, the last, behind it");
        p.due("line(0) of none", p.x.line(0), NOT);
        p.due("line(-1) of none", p.x.line(-1), 0);
        p.job("1x1", 6, 0, 100, -1);
        p.job("1x1", 7, 0, 100, -1);
        p.job("1x1", 0, 9, 100, -1);
        p.dueAll("line", new long[] {p.x.line(-2), p.x.line(-1), p.x.line(0), p.x.line(1), p.x.line(2), p.x.line(3),
            p.x.line(MOST), p.x.line(LEAST)}, BAD, 3, 2, 0, 1, NOT, NOT, BAD);
        Play q = begin("12 line: the last ACCOUNT's share, like shares by number");
        q.job(7, "1x2");
        q.job(6, "2x1");
        q.x.step(2);
        // USED: 2 and 2
        q.job(7, "1x1");
        q.job(6, "1x1");
        q.job(0, "1x1");
        q.dueAll("line", new long[] {q.x.line(0), q.x.line(1), q.x.line(2)}, 4, 2, 3);
        q.x.weight(7, 9);
        q.dueAll("line", new long[] {q.x.line(0), q.x.line(1), q.x.line(2)}, 4, 3, 2);
        q.x.weight(7, 11);
        q.dueAll("line", new long[] {q.x.line(0), q.x.line(1), q.x.line(2)}, 4, 2, 3);
        q.x.rank(3, 6);
        q.dueAll("line: RANK first", new long[] {q.x.line(0), q.x.line(1), q.x.line(2)}, 3, 4, 2);
        Play r = begin("12 line: AFTER WAITING, RUNNING, DONE");
        r.job("1x2", 0, 5, 100, -1);
        r.job("1x1", 0, 5, 100, 0);
        r.due("line(-1): 0 waits", r.x.line(-1), 1);
        r.x.step(1);
        r.due("line(-1): 0 runs", r.x.line(-1), 0);
        r.x.step(1);
        r.due("line(0): 0 is DONE", r.x.line(0), 1);
        r.x.limit(0, 0);
        r.due("line(0): though LIMIT passes it over", r.x.line(0), 1);
    }

    private static void ranksAndHolds() {
        Play p = busy("13, 14 rank and hold: refused");
        int[] noJob = {-1, 7, MOST, LEAST};
        for (int j : noJob) {
            p.refused("rank(" + j + ", 5)", () -> p.x.rank(j, 5), BAD);
            p.refused("hold(" + j + ", 1)", () -> p.x.hold(j, 1), BAD);
        }
        int[] notWaiting = {DONE_ONE, CUT_ONE, RUNS, OFF_ONE};
        for (int j : notWaiting) {
            p.refused("rank(" + j + ", 5)", () -> p.x.rank(j, 5), STATE);
            p.refused("hold(" + j + ", 1)", () -> p.x.hold(j, 1), STATE);
            p.refused("hold(" + j + ", 0)", () -> p.x.hold(j, 0), STATE);
            p.refused("rank(" + j + ", 10)", () -> p.x.rank(j, 10), BAD);
            p.refused("hold(" + j + ", 2)", () -> p.x.hold(j, 2), BAD);
        }
        int[][] wrong = {{-1, -1}, {10, 2}, {MOST, MOST}, {LEAST, LEAST}};
        for (int[] w : wrong) {
            p.refused("rank(3, " + w[0] + ")", () -> p.x.rank(WAITS, w[0]), BAD);
            p.refused("hold(3, " + w[1] + ")", () -> p.x.hold(WAITS, w[1]), BAD);
        }
        p.dueAll("rank", new long[] {p.x.rank(WAITS, 0), p.x.rank(WAITS, 9), p.x.rank(WAITS, 5)}, 5, 0, 9);
        p.due("rank makes no PASS, gives up no PROMISE", p.x.count(6), 1);
        p.dueAll("hold", new long[] {p.x.hold(WAITS, 0), p.x.count(6), p.x.hold(WAITS, 1), p.x.count(6),
            p.x.hold(WAITS, 1), p.x.hold(WAITS, 0), p.x.hold(WAITS, 0), p.x.count(6)}, 0, 1, 0, 0, 1, 1, 0, 0);
        p.due("led(7)", p.x.led(7), 4);
        p.dueAll("one behind another may be HELD BACK", new long[] {p.x.hold(WAITS_AFTER, 1), p.x.hold(HELD, 0)}, 0,
            1);
    }

    private static void texts() {
        Play p = begin("15 text: -2, -1, the last byte, behind it");
        p.job(0, "1x1");
        p.due("text(0, -1)", p.x.text(0, -1), 11);
        p.dueAll("text", new long[] {p.x.text(0, -2), p.x.text(0, 0), p.x.text(0, 10), p.x.text(0, 11),
            p.x.text(0, MOST), p.x.text(0, LEAST), p.x.text(1, 0), p.x.text(1, MOST), p.x.text(-1, 0)},
            BAD, '0', '1', NOT, NOT, BAD, BAD, BAD, BAD);
        p.x.step(1);
        p.due("text(0, -1): it STARTED at 0", p.x.text(0, -1), 14);
        p.dueAll("text", new long[] {p.x.text(0, 11), p.x.text(0, 12), p.x.text(0, 13), p.x.text(0, 14)},
            ' ', '@', '0', NOT);
        for (int i = 1; i < 79; i++) {
            p.x.off(p.job(0, "1x1"));
        }
        p.x.step(100);
        p.x.step(9);
        p.due("the 80th", p.job("016x200,16x020,5x1,16x199", 7, 9, 1, -1), 79);
        p.holds("its text", p.text(79).equals("79:a7 r9 16x200,16x20,5x1,16x199"));
        p.x.off(79);
        p.holds("OFF without START: as it was", p.text(79).equals("79:a7 r9 16x200,16x20,5x1,16x199"));
        Play q = begin("15 text: a START of several figures");
        q.x.step(100);
        q.x.step(23);
        q.job(3, "16x200");
        q.x.pass();
        q.holds("its text", q.text(0).equals("0:a3 r5 16x200 @123"));
        q.x.off(0);
        q.holds("OFF behind START: it stays", q.text(0).equals("0:a3 r5 16x200 @123"));
    }

    // ---- 16 to 18

    private static void keptSpans() {
        Play p = busy("16 keep: refused");
        // NOW is 4; 3x40 holds 4 to 6 till 40; 2x9 holds 7 and 8 till 9; 14 and 15 are kept from 60 to 70
        int[][] wrong = {{-1, 50, 51, 0}, {16, 50, 51, 0}, {99, 50, 51, 0}, {100, 50, 51, 0}, {116, 50, 51, 0},
            {1514, 50, 51, 0}, {1516, 50, 51, 0}, {1600, 50, 51, 0}, {1616, 50, 51, 0}, {1000000, 50, 51, 0},
            {5, 3, 51, 0}, {5, -1, 51, 0}, {5, LEAST, 51, 0}, {5, 50, 50, 0}, {5, 50, 49, 0}, {5, 50, LEAST, 0},
            {5, 50, 30005, 0}, {5, 30004, 30005, 0}, {5, 50, MOST, 0}, {5, MOST, MOST, 0}, {5, MOST, LEAST, 0},
            {5, 50, 51, -2}, {5, 50, 51, 8}, {5, 50, 51, MOST}, {5, 50, 51, LEAST}, {MOST, 50, 51, 0},
            {LEAST, 50, 51, 0}};
        for (int[] w : wrong) {
            p.refused("keep(" + w[0] + ", " + w[1] + ", " + w[2] + ", " + w[3] + ")",
                () -> p.x.keep(w[0], w[1], w[2], w[3]), BAD);
        }
        int[][] over = {{15, 4, 30004, 0}, {404, 4, 5, 2}, {606, 39, 40, 2}, {406, 20, 41, 2}, {5, 39, 41, -1},
            {615, 39, 41, -1}, {808, 8, 9, 2}, {1414, 69, 70, 1}, {1515, 60, 61, 1}, {14, 50, 61, 1},
            {1515, 69, 90, -1}};
        for (int[] w : over) {
            p.refused("keep(" + w[0] + ", " + w[1] + ", " + w[2] + ", " + w[3] + ")",
                () -> p.x.keep(w[0], w[1], w[2], w[3]), STATE);
        }
        p.dueAll("beside what is held and kept", new long[] {p.x.keep(3, 4, 30004, -1), p.x.keep(404, 40, 30004, 7),
            p.x.keep(909, 4, 5, 0), p.x.keep(808, 9, 10, 0), p.x.keep(1313, 60, 70, 0), p.x.keep(1415, 59, 60, 0),
            p.x.keep(1415, 70, 71, 0), p.x.keep(1010, 30003, 30004, 0)}, 1, 2, 3, 4, 5, 6, 7, 8);
        p.due("count(3)", p.x.count(3), 9);
    }

    private static void mostSpans() {
        Play p = begin("16 keep: 12 that are not gone");
        for (int i = 0; i < 12; i++) {
            p.due("keep", p.x.keep(101 * i, 5, 6 + i, -1), i);
        }
        p.refused("a 13th", () -> p.x.keep(1515, 90, 91, 0), FULL);
        p.refused("a 13th that overlaps", () -> p.x.keep(0, 5, 6, 0), FULL);
        p.refused("a 13th that may not be", () -> p.x.keep(1515, 91, 91, 0), BAD);
        p.refused("every, a 13th", () -> p.x.every(1515, 90, 1, 1, 1, 0), FULL);
        p.x.step(5);
        p.due("count(3): the first one ends at 6", p.x.count(3), 12);
        p.refused("a 13th at 5", () -> p.x.keep(1515, 90, 91, 0), FULL);
        p.x.step(1);
        p.due("count(3): it is gone", p.x.count(3), 11);
        p.refused("free of what is gone", () -> p.x.free(0), BAD);
        p.due("its COLUMN is free again", p.x.keep(0, 6, 7, 0), 12);
        p.refused("a 13th once more", () -> p.x.keep(1515, 90, 91, 0), FULL);
        p.due("free(12)", p.x.free(12), 11);
        p.due("numbers are not given again", p.x.keep(0, 6, 7, 0), 13);
        p.x.step(20);
        p.due("all are gone", p.x.count(3), 0);
        p.due("keep", p.x.keep(15, 26, 27, 0), 14);
    }

    private static void spansHeldByTheLastColumn() {
        Play p = begin("16 keep: over an ARM on the last COLUMN alone");
        p.x.keep(14, 0, 9, -1);
        p.job("1x5", 0, 5, 20, -1);
        p.x.pass();
        p.due("holder(15)", p.x.holder(15), 0);
        p.refused("keep", () -> p.x.keep(1515, 4, 5, 0), STATE);
        p.due("keep", p.x.keep(1515, 5, 6, 0), 1);
        p.due("holes: 15 is held", p.x.holes(0, 1, 0), 0);
        p.due("earliest", p.earliest("1x1", 1), 6);
        p.due("gap(15, 0, 0)", p.x.gap(15, 0, 0), 6);
        p.job(1, "1x2");
        p.due("foretell: its ARM lasts as long as it asks", p.x.foretell(1), 6);
        Play q = begin("16 keep: what an ARM asked, though it ends early; nothing once it let go");
        q.job("2x10", 0, 5, 50, -1);
        q.x.step(4);
        q.refused("keep at 4", () -> q.x.keep(1, 9, 10, 0), STATE);
        q.x.step(1);
        q.due("keep at 5, at which it let go", q.x.keep(1, 5, 10, 0), 0);
    }

    private static void spansOfAccounts() {
        for (int account = -1; account < 8; account++) {
            Play p = begin("16 keep: just the JOBS of ACCOUNT " + account);
            p.x.keep(15, 1, 2, account);
            for (int a = 0; a < 8; a++) {
                p.due("earliest of " + a, p.earliest("16x2", a), a == account ? 0 : 2);
            }
            p.due("holes: it is kept from all", p.x.holes(1, 1, 0), 0);
            p.due("holes ahead of it", p.x.holes(0, 1, 0), 16);
            p.due("holes behind it", p.x.holes(2, 1, 0), 16);
        }
    }

    private static void everySpans() {
        Play p = busy("17 every: refused");
        int[][] wrong = {{5, 50, 3, 5, 0, 0}, {5, 50, 3, 5, 7, 0}, {5, 50, 3, 5, -1, 0}, {5, 50, 0, 5, 2, 0},
            {5, 50, -1, 5, 2, 0}, {5, 50, 3, 2, 2, 0}, {5, 50, 3, 0, 1, 0}, {5, 50, 3, -9, 2, 0}, {5, 3, 3, 5, 2, 0},
            {5, 50, 3, 5, 2, -2}, {5, 50, 3, 5, 2, 8}, {16, 50, 3, 5, 2, 0}, {-1, 50, 3, 5, 2, 0},
            {100, 50, 3, 5, 2, 0},
            {5, 29999, 2, 4, 2, 0}, {5, 50, MOST, MOST, 1, 0}, {5, 50, 1, MOST, 6, 0}, {5, MOST, MOST, MOST, 6, 0},
            {5, 50, 1, 715827883, 4, 0}, {5, 50, LEAST, LEAST, 1, 0}, {5, LEAST, 1, 1, 1, 0}, {5, 50, 3, 5, LEAST, 0},
            {5, 50, 3, 5, MOST, 0}, {5, 50, 29955, 29955, 1, 0}, {MOST, 50, 3, 5, 1, 0}, {5, 50, 3, 5, 1, MOST}};
        for (int[] w : wrong) {
            p.refused("every(" + w[0] + ", " + w[1] + ", " + w[2] + ", " + w[3] + ", " + w[4] + ", " + w[5] + ")",
                () -> p.x.every(w[0], w[1], w[2], w[3], w[4], w[5]), BAD);
        }
        p.refused("the first overlaps an ARM", () -> p.x.every(404, 39, 1, 1, 3, 2), STATE);
        p.refused("just the last overlaps a span", () -> p.x.every(1414, 44, 2, 5, 4, 1), STATE);
        p.due("the one behind the last would", p.x.every(1414, 44, 2, 5, 3, 1), 1);
        p.due("count(3)", p.x.count(3), 4);
        p.due("between them", p.x.every(1414, 46, 3, 5, 2, 1), 4);
        p.dueAll("all to 30000 behind NOW", new long[] {p.x.every(3, 30000, 2, 2, 2, -1), p.x.count(3)}, 6, 8);
        p.refused("5 more are too many", () -> p.x.every(505, 40, 1, 1, 5, 0), FULL);
        p.refused("5 more, of which one overlaps", () -> p.x.every(1414, 60, 1, 1, 5, 0), FULL);
        p.dueAll("4 more are just as many", new long[] {p.x.every(505, 40, 1, 1, 4, 0), p.x.count(3)}, 8, 12);
    }

    private static void everyOne() {
        Play p = begin("17 every: 1 and 6, LEN 1, APART as LEN");
        p.dueAll("1", new long[] {p.x.every(0, 0, 1, 1, 1, 0), p.x.count(3)}, 0, 1);
        p.dueAll("6", new long[] {p.x.every(101, 0, 1, 1, 6, 0), p.x.count(3)}, 1, 7);
        p.due("gap(1, 0, 0)", p.x.gap(1, 0, 0), 6);
        p.due("free(6)", p.x.free(6), 6);
        p.due("gap(1, 0, 0)", p.x.gap(1, 0, 0), 5);
        p.due("1 to the last tick", p.x.every(202, 0, 30000, 30000, 1, 0), 7);
        p.due("1, however far apart", p.x.every(303, 0, 30000, MOST, 1, 0), 8);
        p.dueAll("the same as keep()", new long[] {p.x.gap(2, 0, 0), p.x.gap(3, 0, 0)}, 30000, 30000);
        p.dueAll("numbers go on behind a free one", new long[] {p.x.keep(404, 0, 1, 0), p.x.count(3)}, 9, 9);
    }

    private static void freedSpans() {
        Play p = busy("18 free: refused");
        int[] wrong = {-1, 1, MOST, LEAST};
        for (int w : wrong) {
            p.refused("free(" + w + ")", () -> p.x.free(w), BAD);
        }
        p.due("free(0)", p.x.free(0), 0);
        p.refused("free(0) once more", () -> p.x.free(0), BAD);
        p.due("its COLUMNS are free", p.x.keep(1415, 60, 70, 0), 1);
        Play q = begin("18 free: gone when NOW is its last tick");
        q.x.keep(15, 0, 3, 0);
        q.x.keep(15, 3, 4, 0);
        q.x.step(2);
        q.due("count(3) at 2", q.x.count(3), 2);
        q.x.step(1);
        q.due("count(3) at 3", q.x.count(3), 1);
        q.refused("free(0)", () -> q.x.free(0), BAD);
        q.due("free(1)", q.x.free(1), 0);
    }

    // ---- 19 to 22

    private static void steps() {
        Play p = busy("19 step: refused");
        int[] wrong = {0, -1, 101, MOST, LEAST};
        for (int w : wrong) {
            p.refused("step(" + w + ")", () -> p.x.step(w), BAD);
        }
        p.due("step(1)", p.x.step(1), 5);
        p.due("step(100)", p.x.step(100), 105);
        Play q = begin("19 step: 99999");
        for (int i = 0; i < 999; i++) {
            q.x.step(100);
        }
        q.job(0, "1x1");
        q.refused("step(100) at 99900", () -> q.x.step(100), FULL);
        q.refused("step(101) at 99900", () -> q.x.step(101), BAD);
        q.due("step(99)", q.x.step(99), 99999);
        q.refused("step(1) at 99999", () -> q.x.step(1), FULL);
        q.refused("step(0) at 99999", () -> q.x.step(0), BAD);
        q.job(0, "1x1");
        q.due("pass at 99999", q.x.pass(), 1);
        q.due("keep at 99999", q.x.keep(1515, 99999, 129999, -1), 0);
        q.due("image at 99999", q.x.image(), 99999);
    }

    private static void passes() {
        for (int last = 19999; last <= 20001; last++) {
            Play p = begin("20 pass: FREE from " + last + " on");
            p.x.step(7);
            p.x.keep(15, 7, 7 + last, -1);
            p.job(0, "1x1");
            p.due("pass", p.x.pass(), 0);
            p.due("of(0, 9)", p.x.of(0, 9), last <= 20000 ? 7 + last : NOT);
            p.due("count(6)", p.x.count(6), last <= 20000 ? 1 : 0);
            p.due("earliest", p.earliest("1x1", 0), last <= 20000 ? 7 + last : NOT);
        }
        Play p = begin("20 pass: a PROMISE at the very next tick");
        p.x.keep(15, 0, 1, -1);
        p.job(0, "16x200");
        p.due("pass", p.x.pass(), 0);
        p.due("of(0, 9)", p.x.of(0, 9), 1);
        Play q = begin("20 pass: it FITS just as long as it asks");
        q.x.keep(15, 5, 6, -1);
        q.job(0, "8x6");
        q.job(1, "8x5");
        q.due("pass", q.x.pass(), 1);
        q.due("of(0, 9)", q.x.of(0, 9), 6);
        q.due("of(1, 6)", q.x.of(1, 6), 0);
        Play r = begin("20 pass: how many STARTED, 0 and 16");
        r.due("of none", r.x.pass(), 0);
        for (int i = 0; i < 17; i++) {
            r.job(i % 8, "1x1");
        }
        r.due("of 17", r.x.pass(), 16);
        r.due("count(4)", r.x.count(4), 16);
        r.due("the one left has a PROMISE", r.x.of(16, 9), 1);
        r.due("at once once more", r.x.pass(), 0);
    }

    private static void fits() {
        Play p = begin("20 pass: a run that is just long enough, the first of like ones, the first COLUMNS of it");
        p.x.keep(303, 0, 9, -1);
        p.x.keep(707, 0, 9, -1);
        p.x.keep(1212, 0, 9, -1);
        // free: 0-2, 4-6, 8-11, 13-15
        p.job(0, "3x1");
        p.x.pass();
        p.due("arm(0, 0, 3)", p.x.arm(0, 0, 3), 0);
        p.job(1, "4x1");
        p.x.pass();
        p.due("arm(1, 0, 3)", p.x.arm(1, 0, 3), 8);
        p.job(2, "2x1");
        p.x.pass();
        p.due("arm(2, 0, 3)", p.x.arm(2, 0, 3), 4);
        p.job(3, "1x1,1x1,1x1,1x1");
        p.x.pass();
        p.dueAll("arm(3)", new long[] {p.x.arm(3, 0, 3), p.x.arm(3, 1, 3), p.x.arm(3, 2, 3), p.x.arm(3, 3, 3)},
            6, 13, 14, 15);
        p.due("count(4)", p.x.count(4), 13);
        p.due("no COLUMN is left", p.x.holes(0, 1, 0), 0);
        Play q = begin("20 pass: the widest first, of like ones as told");
        q.job(0, "1x1,3x1,1x1,3x1");
        q.x.pass();
        q.dueAll("arm(0)", new long[] {q.x.arm(0, 0, 3), q.x.arm(0, 1, 3), q.x.arm(0, 2, 3), q.x.arm(0, 3, 3)},
            6, 0, 7, 3);
        int[][] want = {{0, 8}, {8, 0}, {NOT, NOT}, {0, 8}};
        String[] arms = {"8x5,8x6", "8x6,8x5", "8x5,8x6", "8x6,8x5"};
        for (int i = 0; i < 4; i++) {
            Play r = begin("20 pass: each ARM takes what is FREE for as long as it asks, " + i);
            // for 6 ticks just the other half is FREE
            r.x.keep(i < 2 ? 7 : 815, 5, 6, -1);
            r.job(0, arms[i]);
            r.due("pass", r.x.pass(), i == 2 ? 0 : 1);
            r.dueAll("arm(0)", new long[] {r.x.arm(0, 0, 3), r.x.arm(0, 1, 3)}, want[i][0], want[i][1]);
        }
    }

    private static void whatRunsStays() {
        Play p = begin("20 pass: no ARM is where one of a PASS before holds a COLUMN");
        p.job(0, "4x9,3x9,2x3,1x9");
        p.due("pass", p.x.pass(), 1);
        p.job(1, "7x5");
        p.job(2, "6x5");
        p.due("pass", p.x.pass(), 1);
        p.dueAll("holder", new long[] {p.x.holder(3), p.x.holder(6), p.x.holder(8), p.x.holder(9), p.x.holder(10),
            p.x.holder(15)}, 0, 0, 0, 0, 2, 2);
        p.due("of(1, 9): 9 is held till then", p.x.of(1, 9), 9);
        p.x.step(3);
        p.dueAll("2x3 let go", new long[] {p.x.holder(6), p.x.holder(7), p.x.holder(8), p.x.holder(9)}, 0, NOT, NOT, 0);
        p.job(3, "2x9");
        p.due("pass at 3: 0-6 are promised to 1 from 9 on", p.x.pass(), 1);
        p.dueAll("holder", new long[] {p.x.holder(6), p.x.holder(7), p.x.holder(8), p.x.holder(9)}, 0, 3, 3, 0);
        Play q = begin("20 pass: nor where it would be just long enough");
        q.job(0, "5x9,4x9,3x9,2x9");
        q.x.pass();
        for (int wide = 2; wide <= 5; wide++) {
            q.job(wide, wide + "x1");
        }
        // 14 and 15 are left
        q.due("pass", q.x.pass(), 1);
        q.dueAll("holder", new long[] {q.x.holder(4), q.x.holder(8), q.x.holder(11), q.x.holder(13), q.x.holder(14)},
            0, 0, 0, 0, 1);
        q.dueAll("of(2, 9), of(3, 0), of(4, 0)", new long[] {q.x.of(2, 9), q.x.of(3, 0), q.x.of(4, 0)}, 9, 0, 0);
    }

    private static void holdersAndPromises() {
        Play p = busy("21, 22 holder and promised: refused");
        int[] wrong = {-1, 16, MOST, LEAST};
        for (int w : wrong) {
            p.due("holder(" + w + ")", p.x.holder(w), BAD);
            p.due("promised(" + w + ", 40)", p.x.promised(w, 40), BAD);
        }
        p.dueAll("promised at a tick", new long[] {p.x.promised(0, 3), p.x.promised(0, -1), p.x.promised(0, LEAST),
            p.x.promised(0, 4), p.x.promised(0, 39), p.x.promised(0, 40), p.x.promised(15, 43), p.x.promised(15, 44),
            p.x.promised(0, MOST)}, BAD, BAD, BAD, NOT, NOT, 3, 3, NOT, NOT);
        p.dueAll("holder", new long[] {p.x.holder(0), p.x.holder(3), p.x.holder(4), p.x.holder(8), p.x.holder(9),
            p.x.holder(15)}, NOT, NOT, 2, 2, NOT, NOT);
        Play q = begin("22 promised: of each ARM as long as it asks, on just its COLUMNS");
        q.x.rule(0, 4);
        q.job(0, "16x2");
        q.job(1, "1x3,2x1");
        q.job(2, "13x1");
        q.x.pass();
        // 1 at 2: 2 wide 0-1, 1 wide 2 to 5; 2 at 2: 3-15
        q.dueAll("at 2", new long[] {q.x.promised(0, 2), q.x.promised(1, 2), q.x.promised(2, 2), q.x.promised(3, 2),
            q.x.promised(15, 2)}, 1, 1, 1, 2, 2);
        q.dueAll("at 3", new long[] {q.x.promised(0, 3), q.x.promised(1, 3), q.x.promised(2, 3), q.x.promised(3, 3),
            q.x.promised(15, 3)}, NOT, NOT, 1, NOT, NOT);
        q.dueAll("2", new long[] {q.x.promised(2, 1), q.x.promised(2, 4), q.x.promised(2, 5)}, NOT, 1, NOT);
        q.x.step(1);
        q.due("promised at the tick that went by", q.x.promised(2, 0), BAD);
        q.due("promised(2, 1)", q.x.promised(2, 1), NOT);
        q.due("promised(2, 4)", q.x.promised(2, 4), 1);
    }

    public static void main(String[] args) {
        busyScene();
        newObject();
        weights();
        limits();
        limitOfOneColumnWide();
        rankedOnes();
        rules();
        depths();
        windows();
        periods();
        tape();
        faults();
        longFaults();
        comingJobs();
        mostJobs();
        takenOff();
        allTakenOff();
        ofAndArms();
        firstPromises();
        lasts();
        cutByAnArm();
        ends();
        endsOfFourArms();
        theLine();
        ranksAndHolds();
        texts();
        keptSpans();
        mostSpans();
        spansHeldByTheLastColumn();
        spansOfAccounts();
        everySpans();
        everyOne();
        freedSpans();
        steps();
        passes();
        fits();
        whatRunsStays();
        holdersAndPromises();
        CHECKS.end();
    }
}
