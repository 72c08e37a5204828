/** For each promise of the document runs whose answers were worked out by hand from its words. */
public final class PromisesTest {
    private static final int BAD = GangColumns.BAD, NOT = GangColumns.NOT, FULL = GangColumns.FULL,
        STATE = GangColumns.STATE;
    private static final int MOST = Integer.MAX_VALUE, LEAST = Integer.MIN_VALUE;
    private static final Checks CHECKS = new Checks("PromisesTest");
    private static GangColumns x;

    private static void begin(String about) {
        CHECKS.about(about);
        x = new GangColumns();
    }

    private static void due(String call, long got, long want) {
        CHECKS.due(call, got, want);
    }

    private static void tell(String text) {
        for (int i = 0; i < text.length(); i++) {
            x.feed(text.charAt(i));
        }
    }

    private static int job(String text, int account, int rank, int part, int after) {
        tell(text);
        return x.job(account, rank, part, after);
    }

    /** A job of rank 5, part 100, behind none, each of the next account: so no LIMIT is in the way. */
    private static int job(String text) {
        return jobOf(x.count(0) % 8, text);
    }

    private static int jobOf(int account, String text) {
        return job(text, account, 5, 100, -1);
    }

    private static int costs(String text, int account, int rank, int what) {
        tell(text);
        return x.costs(account, rank, what);
    }

    private static int earliest(String text, int account) {
        tell(text);
        return x.earliest(account);
    }

    private static void dueText(int job, String want) {
        StringBuilder got = new StringBuilder();
        for (int i = 0; i < Math.max(0, x.text(job, -1)); i++) {
            got.append((char) x.text(job, i));
        }
        CHECKS.holds("text of " + job + " is '" + want + "', not '" + got + "'", got.toString().equals(want));
    }

    private static void dueEvents(int... want) {
        for (int i = 0; i < want.length; i++) {
            due("event(" + i / 3 + ", " + i % 3 + ")", x.event(i / 3, i % 3), want[i]);
        }
        due("event behind the last", x.event(want.length / 3, 0), NOT);
    }

    // ---- 1 to 6: a new object, accounts, rules

    private static void newObject() {
        begin("1 a new object");
        for (int what = 0; what <= 7; what++) {
            due("count", x.count(what), 0);
            due("led", x.led(what), 0);
        }
        for (int a = 0; a < 8; a++) {
            due("used", x.used(a), 0);
            due("weight", x.weight(a, 10), 10);
            due("limit", x.limit(a, 16), 16);
            due("ranked", x.ranked(a), a);
        }
        due("rule 0", x.rule(0, 1), 1);
        due("rule 1", x.rule(1, 80), 80);
        due("rule 2", x.rule(2, 0), 0);
        due("line", x.line(-1), 0);
        due("started", x.started(0), NOT);
        due("of", x.of(0, 0), BAD);
    }

    private static void weights() {
        begin("2 weight");
        due("weight(3, 100)", x.weight(3, 100), 10);
        due("weight(3, 1)", x.weight(3, 1), 100);
        int[][] wrong = {{-1, 5}, {8, 5}, {3, 0}, {3, 101}, {MOST, 5}, {3, LEAST}};
        for (int[] w : wrong) {
            due("weight of what may not be", x.weight(w[0], w[1]), BAD);
        }
        due("weight(3, 7)", x.weight(3, 7), 1);
        due("weight(4, 7)", x.weight(4, 7), 10);
    }

    private static void limits() {
        begin("3 limit");
        due("limit(2, 0)", x.limit(2, 0), 16);
        due("limit(2, 16)", x.limit(2, 16), 0);
        int[][] wrong = {{-1, 5}, {8, 5}, {2, -1}, {2, 17}, {LEAST, 5}, {2, MOST}};
        for (int[] w : wrong) {
            due("limit of what may not be", x.limit(w[0], w[1]), BAD);
        }
        due("limit(2, 5)", x.limit(2, 5), 16);
        begin("3 limit: just as many columns START, more are passed over without a PROMISE");
        x.limit(2, 5);
        jobOf(2, "2x10,1x10");
        jobOf(2, "3x10");
        jobOf(2, "2x10");
        jobOf(3, "16x10");
        due("pass", x.pass(), 2);
        due("of(0, 0)", x.of(0, 0), 1);
        due("of(1, 0)", x.of(1, 0), 0);
        due("of(1, 9)", x.of(1, 9), NOT);
        due("of(2, 0)", x.of(2, 0), 1);
        due("of(3, 9)", x.of(3, 9), 10);
        due("led(4): the one passed over is as if not in THE LINE", x.led(4), 0);
        begin("3 limit: ARMS that let go no longer count");
        x.limit(0, 4);
        jobOf(0, "2x3,2x9");
        jobOf(0, "2x5");
        due("pass", x.pass(), 1);
        x.step(3);
        due("pass later", x.pass(), 1);
    }

    private static void rankedAccounts() {
        begin("4 ranked");
        x.weight(1, 20);
        jobOf(0, "4x5");
        jobOf(1, "6x5");
        jobOf(2, "2x5");
        x.weight(2, 5);
        x.step(5);
        // USED by WEIGHT: 20/10, 30/20, 10/5
        int[] want = {3, 4, 5, 6, 7, 1, 0, 2};
        for (int i = 0; i < 8; i++) {
            due("ranked(" + i + ")", x.ranked(i), want[i]);
        }
        due("ranked(-1)", x.ranked(-1), BAD);
        due("ranked(8)", x.ranked(8), BAD);
    }

    private static void rules() {
        begin("5 rule");
        int[] most = {4, 80, 100};
        for (int what = 0; what < 3; what++) {
            x.rule(what, 3);
            due("rule to its most", x.rule(what, most[what]), 3);
            due("rule above its most", x.rule(what, most[what] + 1), BAD);
            due("rule below 0", x.rule(what, -1), BAD);
            due("rule to 0", x.rule(what, 0), most[what]);
            due("rule from 0", x.rule(what, 1), 0);
        }
        due("rule(-1, 1)", x.rule(-1, 1), BAD);
        due("rule(3, 1)", x.rule(3, 1), BAD);
        begin("5 rule: DEPTH");
        job("10x10");
        job("10x4");
        job("12x4");
        job("6x15");
        x.rule(0, 2);
        due("pass", x.pass(), 1);
        due("promise of 1", x.of(1, 9), 10);
        due("promise of 2", x.of(2, 9), 14);
        due("the last one would hold columns of a PROMISE", x.of(3, 0), 0);
        due("two PROMISES", x.count(6), 2);
        x.rule(0, 0);
        due("pass with no PROMISES", x.pass(), 1);
        due("no PROMISES", x.count(6), 0);
        due("the last one STARTED", x.of(3, 6), 0);
        begin("5 rule: WINDOW");
        x.rule(1, 1);
        job("10x10");
        job("10x10");
        job("7x1");
        job("1x1");
        due("pass looks at one behind", x.pass(), 1);
        due("of(3, 0)", x.of(3, 0), 0);
        x.rule(1, 2);
        due("pass looks at two behind", x.pass(), 1);
        due("of(3, 0)", x.of(3, 0), 1);
        begin("5 rule: WINDOW, one passed over by LIMIT does not count");
        x.rule(1, 1);
        x.limit(1, 2);
        job("10x10");
        job("10x10");
        jobOf(1, "3x1");
        job("1x1");
        due("pass", x.pass(), 2);
        begin("5 rule: WINDOW 0");
        x.rule(1, 0);
        job("10x10");
        job("10x10");
        job("1x1");
        due("pass", x.pass(), 1);
        due("the first stuck one has its PROMISE", x.of(1, 9), 10);
    }

    private static void usedColumns() {
        begin("6 used");
        jobOf(0, "3x5");
        job("4x10", 7, 5, 50, -1);
        x.step(3);
        due("used(0)", x.used(0), 9);
        due("used(7)", x.used(7), 12);
        x.step(5);
        due("used(0)", x.used(0), 15);
        due("used(7): it lasts 5", x.used(7), 20);
        due("used(-1)", x.used(-1), BAD);
        due("used(8)", x.used(8), BAD);
        begin("6 used: halved and cut by PERIOD");
        x.rule(2, 3);
        jobOf(0, "1x100");
        x.step(2);
        due("used(0) at 2", x.used(0), 2);
        x.step(1);
        due("used(0) at 3: 3 halved", x.used(0), 1);
        x.step(3);
        due("used(0) at 6: 4 halved", x.used(0), 2);
    }

    // ---- 7 to 15: jobs

    private static void tape() {
        begin("7 feed");
        due("feed(31)", x.feed(31), BAD);
        due("feed(127)", x.feed(127), BAD);
        due("feed(32)", x.feed(32), 1);
        due("feed(126)", x.feed(126), 2);
        for (int i = 3; i <= 60; i++) {
            due("feed", x.feed('1'), i);
        }
        due("feed of a 61st", x.feed('1'), FULL);
        due("feed of a bad one", x.feed(0), BAD);
        due("count(5)", x.count(5), 60);
    }

    private static void faults() {
        begin("8 job: FAULTS");
        Object[][] texts = {{"", 0}, {"1", 1}, {"1x", 2}, {"1x1,", 4}, {"x", 0}, {"a", 0}, {"0x1", 0}, {"17x1", 0},
            {"16x201", 3}, {"16x0", 3}, {"1x000", 2}, {"1x1;", 3}, {"1x1 ", 3}, {" 1x1", 0}, {"1X1", 1},
            {"1x1,1x1,1x1,1x1,1x1", 15}, {"1x1,1x1,1x1,1x1,", 15}, {"1x1,1x1,1x1,1x1,?", 15}, {"0001x1", 0},
            {"0011x1", 3}, {"0161x1", 3}, {"1001x1", 0}, {"1x0011", 5}, {"1x2000", 5}, {"1x2010", 2}, {"1x999", 2},
            {"1x1,,", 4}, {"1x1,17x1", 4}, {"1x1x1", 3}, {"1x1,2x", 6}, {"1x-1", 2}, {"20", 0}, {"1x1,1x1,1x1,1x", 14}};
        for (Object[] t : texts) {
            due("job of '" + t[0] + "'", job((String) t[0]), -100 - (Integer) t[1]);
            due("THE TAPE is empty", x.count(5), 0);
        }
        due("no JOB came", x.count(0), 0);
        due("job of '016x200,1x001'", job("016x200,1x001"), 0);
        dueText(0, "0:a0 r5 16x200,1x1");
    }

    private static void comingJobs() {
        begin("8 job: what leaves THE TAPE as it is");
        due("job", job("1x1"), 0);
        tell("1x1");
        int[][] wrong = {{-1, 5, 100, -1}, {8, 5, 100, -1}, {0, -1, 100, -1}, {0, 10, 100, -1}, {0, 5, 0, -1},
            {0, 5, 151, -1}, {0, 5, 100, -2}, {0, 5, 100, 1}, {MOST, 5, 100, -1}, {0, 5, 100, LEAST}};
        for (int[] w : wrong) {
            due("job of what may not be", x.job(w[0], w[1], w[2], w[3]), BAD);
        }
        due("THE TAPE stays", x.count(5), 3);
        x.off(0);
        due("job behind one that is OFF", x.job(0, 5, 100, 0), STATE);
        due("THE TAPE stays", x.count(5), 3);
        due("job", x.job(7, 9, 150, -1), 1);
        due("job", job("2x2", 0, 0, 1, 1), 2);
        for (int i = 3; i < 80; i++) {
            due("job", job("1x1"), i);
        }
        tell("zzz");
        due("an 81st job", x.job(0, 5, 100, -1), FULL);
        due("an 81st job behind one that is OFF", x.job(0, 5, 100, 0), FULL);
        due("an 81st job that may not be", x.job(0, 5, 100, 80), BAD);
        due("THE TAPE stays", x.count(5), 3);
        due("count(0)", x.count(0), 80);
    }

    private static void takenOff() {
        begin("9 off");
        job("4x10");
        job("5x10", 0, 5, 100, 0);
        job("1x1", 0, 5, 100, 1);
        job("1x1", 0, 5, 100, 0);
        job("1x1", 0, 5, 100, 1);
        job("1x1");
        x.step(3);
        due("off(0)", x.off(0), 5);
        int[] order = {0, 1, 2, 4, 3};
        for (int i = 0; i < 5; i++) {
            due("kind", x.event(x.count(0) + 3 + i, 1), 4);
            due("in its order", x.event(x.count(0) + 3 + i, 2), order[i]);
        }
        due("its ARMS let go", x.count(4), 0);
        due("holder(0)", x.holder(0), NOT);
        due("of(0, 0)", x.of(0, 0), 4);
        due("arm(0, 0, 4)", x.arm(0, 0, 4), 3);
        due("off once more", x.off(0), STATE);
        due("off of one that is DONE", x.off(5), STATE);
        due("off(-1)", x.off(-1), BAD);
        due("off(6)", x.off(6), BAD);
        due("led(3)", x.led(3), 5);
        begin("9 off: a PROMISE is given up, who is behind a RUNNING one waits no more");
        job("16x10");
        job("16x5");
        job("1x1", 0, 5, 100, 0);
        x.pass();
        due("count(6)", x.count(6), 1);
        due("off(1)", x.off(1), 1);
        due("count(6)", x.count(6), 0);
        due("of(1, 9)", x.of(1, 9), NOT);
        due("of(1, 8)", x.of(1, 8), 10);
        due("off(0)", x.off(0), 2);
        due("of(2, 0)", x.of(2, 0), 4);
        begin("9 off: an ARM that ended keeps its END");
        job("1x2,1x9");
        x.step(4);
        x.off(0);
        due("arm(0, 0, 4)", x.arm(0, 0, 4), 2);
        due("arm(0, 1, 4)", x.arm(0, 1, 4), 4);
    }

    private static void ofJobs() {
        begin("10 of");
        job("3x10,2x4", 6, 7, 50, -1);
        job("16x2", 5, 1, 120, -1);
        job("1x4", 0, 0, 100, 0);
        int[][] before = {{0, 6, 7, 50, -1, 2, NOT, NOT, NOT, NOT, 5}, {0, 5, 1, 120, -1, 1, NOT, NOT, NOT, NOT, 16},
            {0, 0, 0, 100, 0, 1, NOT, NOT, NOT, NOT, 1}};
        for (int j = 0; j < 3; j++) {
            for (int what = 0; what < 11; what++) {
                due("of(" + j + ", " + what + ")", x.of(j, what), before[j][what]);
            }
        }
        x.step(1);
        due("of(0, 0)", x.of(0, 0), 1);
        due("of(0, 6)", x.of(0, 6), 0);
        due("of(1, 8)", x.of(1, 8), 10);
        due("of(1, 9)", x.of(1, 9), 10);
        x.step(4);
        due("of(0, 0): all its ARMS ended at 5", x.of(0, 0), 2);
        due("of(0, 7)", x.of(0, 7), 5);
        x.step(1);
        due("of(1, 0)", x.of(1, 0), 1);
        due("of(1, 8): the first one it got", x.of(1, 8), 10);
        due("of(1, 9)", x.of(1, 9), NOT);
        x.step(1);
        due("of(1, 0)", x.of(1, 0), 2);
        due("of(1, 7)", x.of(1, 7), 7);
        due("of(2, 6)", x.of(2, 6), NOT);
        int[][] wrong = {{-1, 0}, {3, 0}, {0, -1}, {0, 11}, {MOST, 0}, {0, LEAST}};
        for (int[] w : wrong) {
            due("of what may not be", x.of(w[0], w[1]), BAD);
        }
        begin("10 of: CUT, if an ARM would last longer than it asks");
        job("1x1,1x3", 0, 5, 150, -1);
        job("1x1", 0, 5, 150, -1);
        x.step(3);
        due("of(0, 0): 3 * 150 / 100 is 4", x.of(0, 0), 3);
        due("of(1, 0): 1 * 150 / 100 is 1", x.of(1, 0), 2);
        due("of(0, 7)", x.of(0, 7), 3);
    }

    private static void armsOfJobs() {
        begin("11 arm");
        job("2x10,5x200,5x1", 0, 5, 37, -1);
        int[][] before = {{2, 10, 3, NOT, NOT}, {5, 200, 74, NOT, NOT}, {5, 1, 1, NOT, NOT}};
        int[][] after = {{2, 10, 3, 10, 3}, {5, 200, 74, 0, 74}, {5, 1, 1, 5, 1}};
        for (int a = 0; a < 3; a++) {
            for (int what = 0; what < 5; what++) {
                due("arm(0, " + a + ", " + what + ")", x.arm(0, a, what), before[a][what]);
            }
        }
        x.step(2);
        for (int a = 0; a < 3; a++) {
            for (int what = 0; what < 5; what++) {
                due("arm(0, " + a + ", " + what + ") of one that STARTED", x.arm(0, a, what), after[a][what]);
            }
        }
        int[][] wrong = {{-1, 0, 0}, {1, 0, 0}, {0, -1, 0}, {0, 3, 0}, {0, 0, -1}, {0, 0, 5}};
        for (int[] w : wrong) {
            due("arm of what may not be", x.arm(w[0], w[1], w[2]), BAD);
        }
        begin("11 arm: END of one that would last longer than it asks");
        job("1x10", 0, 5, 150, -1);
        x.pass();
        due("arm(0, 0, 2)", x.arm(0, 0, 2), 15);
        due("arm(0, 0, 4)", x.arm(0, 0, 4), 10);
        begin("11 arm: the widest takes the shortest run that is long enough");
        job("3x50");
        job("4x9");
        job("2x50");
        job("3x9");
        job("1x50");
        x.step(9);
        // free: 3-6, 9-11, 13-15
        job("1x5,3x5,2x5");
        x.pass();
        due("3 wide", x.arm(5, 1, 3), 9);
        due("2 wide", x.arm(5, 2, 3), 13);
        due("1 wide", x.arm(5, 0, 3), 15);
    }

    private static void theLine() {
        begin("12 line");
        jobOf(3, "2x9");
        x.step(4);
        jobOf(3, "1x1");
        jobOf(1, "1x1");
        job("1x1", 3, 6, 100, -1);
        jobOf(2, "1x1");
        job("1x1", 0, 9, 100, 0);
        jobOf(1, "1x1");
        int[] want = {3, 2, 4, 6, 1};
        due("line(-1)", x.line(-1), 5);
        for (int i = 0; i < 5; i++) {
            due("line(" + i + ")", x.line(i), want[i]);
        }
        due("line(5)", x.line(5), NOT);
        due("line(-2)", x.line(-2), BAD);
        x.hold(2, 1);
        due("line(1): 2 is HELD BACK", x.line(1), 4);
        x.off(4);
        due("line(1): 4 is OFF", x.line(1), 6);
        x.step(5);
        due("of(0, 0)", x.of(0, 0), 2);
        x.hold(2, 0);
        due("line(-1): 5 and 2, all the others STARTED", x.line(-1), 2);
        due("line(0)", x.line(0), 5);
        due("line(1)", x.line(1), 2);
        begin("12 line: USED by WEIGHT as fractions, like ones by their numbers");
        jobOf(1, "1x3");
        jobOf(2, "2x3");
        jobOf(3, "1x3");
        x.weight(1, 3);
        x.weight(2, 6);
        x.weight(3, 4);
        x.step(3);
        jobOf(2, "1x1");
        jobOf(1, "1x1");
        jobOf(3, "1x1");
        due("line(0)", x.line(0), 5);
        due("line(1)", x.line(1), 3);
        due("line(2)", x.line(2), 4);
        begin("12 line: AFTER one that is CUT");
        job("1x2", 0, 5, 150, -1);
        job("1x2", 0, 5, 100, 0);
        due("line(-1)", x.line(-1), 1);
        x.step(2);
        due("of(0, 0)", x.of(0, 0), 3);
        due("line(0)", x.line(0), 1);
    }

    private static void ranks() {
        begin("13 rank");
        job("9x5");
        job("9x5");
        due("rank(1, 9)", x.rank(1, 9), 5);
        due("line(0)", x.line(0), 1);
        due("rank(1, 0)", x.rank(1, 0), 9);
        due("line(0)", x.line(0), 0);
        due("of(1, 2)", x.of(1, 2), 0);
        x.pass();
        due("rank of one that runs", x.rank(0, 4), STATE);
        int[][] wrong = {{-1, 5}, {2, 5}, {1, -1}, {1, 10}, {0, 10}};
        for (int[] w : wrong) {
            due("rank of what may not be", x.rank(w[0], w[1]), BAD);
        }
        due("the PROMISE stays", x.rank(1, 3), 0);
        due("of(1, 9)", x.of(1, 9), 5);
    }

    private static void heldBack() {
        begin("14 hold");
        job("9x5");
        job("9x5");
        x.pass();
        due("of(1, 9)", x.of(1, 9), 5);
        due("hold(1, 1)", x.hold(1, 1), 0);
        due("of(1, 9): given up", x.of(1, 9), NOT);
        due("promised(0, 5)", x.promised(0, 5), NOT);
        due("hold(1, 1)", x.hold(1, 1), 1);
        x.step(6);
        due("of(1, 0)", x.of(1, 0), 0);
        due("hold(1, 0)", x.hold(1, 0), 1);
        due("hold(1, 0)", x.hold(1, 0), 0);
        due("hold of one that is DONE", x.hold(0, 1), STATE);
        due("pass", x.pass(), 1);
        int[][] wrong = {{-1, 1}, {2, 1}, {1, -1}, {1, 2}, {0, 2}};
        for (int[] w : wrong) {
            due("hold of what may not be", x.hold(w[0], w[1]), BAD);
        }
    }

    private static void texts() {
        begin("15 text");
        job("4x20,2x5,16x1", 7, 0, 100, -1);
        job("1x3", 1, 9, 100, -1);
        dueText(0, "0:a7 r0 4x20,2x5,16x1");
        dueText(1, "1:a1 r9 1x3");
        x.rank(1, 8);
        x.step(12);
        dueText(1, "1:a1 r8 1x3 @0");
        jobOf(0, "15x2");
        x.step(1);
        dueText(2, "2:a0 r5 15x2 @12");
        x.off(2);
        dueText(2, "2:a0 r5 15x2 @12");
        due("text(1, 14)", x.text(1, 14), NOT);
        due("text(1, MOST)", x.text(1, MOST), NOT);
        due("text(1, -2)", x.text(1, -2), BAD);
        due("text(3, 0)", x.text(3, 0), BAD);
        due("text(-1, -1)", x.text(-1, -1), BAD);
    }

    // ---- 16 to 18: spans

    private static void keptSpans() {
        begin("16 keep");
        x.step(5);
        due("keep", x.keep(3, 5, 6, -1), 0);
        due("keep beside it", x.keep(407, 5, 30005, 7), 1);
        due("keep behind it", x.keep(3, 6, 9, 0), 2);
        due("keep over it", x.keep(303, 8, 20, 0), STATE);
        due("keep round it", x.keep(15, 5, 30005, 0), STATE);
        int[][] wrong = {{-1, 5, 9, 0}, {16, 5, 9, 0}, {1616, 5, 9, 0}, {302, 5, 9, 0}, {3, 4, 9, 0}, {3, 9, 9, 0},
            {3, 9, 8, 0}, {3, 5, 30006, 0}, {3, 5, 9, -2}, {3, 5, 9, 8}, {MOST, 5, 9, 0}, {LEAST, 5, 9, 0},
            {3, LEAST, 9, 0}, {3, 5, MOST, 0}, {1599, 5, 9, 0}};
        for (int[] w : wrong) {
            due("keep of what may not be", x.keep(w[0], w[1], w[2], w[3]), BAD);
        }
        due("count(3)", x.count(3), 3);
        for (int i = 3; i < 12; i++) {
            due("keep", x.keep(1515, 100 + i, 101 + i, 0), i);
        }
        due("keep a 13th", x.keep(1414, 10, 11, 0), FULL);
        due("keep a 13th that overlaps", x.keep(3, 5, 6, 0), FULL);
        due("keep a 13th that may not be", x.keep(3, 4, 6, 0), BAD);
        x.step(1);
        due("count(3): one is gone", x.count(3), 11);
        due("keep: numbers go on", x.keep(1414, 10, 11, 0), 12);
        begin("16 keep: ARMS that run are known to hold till they asked");
        job("2x10", 0, 5, 50, -1);
        x.step(1);
        due("keep", x.keep(1, 9, 12, 0), STATE);
        due("keep", x.keep(1, 10, 12, 0), 0);
        x.step(4);
        due("its ARM let go", x.count(4), 0);
        due("keep", x.keep(1, 5, 10, 0), 1);
        begin("16 keep: PROMISES do not matter");
        job("16x10");
        job("16x10");
        x.pass();
        due("keep", x.keep(15, 10, 12, -1), 0);
        x.pass();
        due("of(1, 9)", x.of(1, 9), 12);
        begin("16 keep: who may have them");
        x.keep(7, 0, 10, 2);
        x.keep(815, 0, 10, -1);
        jobOf(1, "1x5");
        jobOf(2, "8x5");
        due("pass", x.pass(), 1);
        due("of(1, 0)", x.of(1, 0), 1);
        due("of(0, 9)", x.of(0, 9), 10);
        begin("16 keep: a JOB does not START into a span to come");
        x.keep(15, 5, 6, 3);
        jobOf(1, "1x6");
        jobOf(1, "1x5");
        jobOf(3, "1x9");
        due("pass", x.pass(), 2);
        due("of(0, 9)", x.of(0, 9), 6);
    }

    private static void everySpans() {
        begin("17 every");
        due("every", x.every(205, 10, 3, 5, 4, 1), 0);
        due("count(3)", x.count(3), 4);
        int[][] holes = {{9, 16}, {10, 12}, {12, 12}, {13, 16}, {15, 12}, {18, 16}, {25, 12}, {28, 16}, {30, 16}};
        for (int[] h : holes) {
            due("holes at " + h[0], x.holes(h[0], 1, 0), h[1]);
        }
        due("every, one overlaps", x.every(5, 3, 1, 11, 3, 1), STATE);
        due("every, all or none", x.count(3), 4);
        due("every, side by side in time", x.every(1, 10, 5, 5, 6, -1), 4);
        due("every, too many", x.every(1415, 10, 1, 1, 3, -1), FULL);
        due("every, too many that overlap", x.every(205, 10, 1, 1, 3, -1), FULL);
        due("every, just as many", x.every(1415, 10, 1, 1, 2, -1), 10);
        begin("17 every: wrong");
        int[][] wrong = {{5, 10, 3, 5, 0, 1}, {5, 10, 3, 5, 7, 1}, {5, 10, 0, 5, 2, 1}, {5, 10, 3, 2, 2, 1},
            {5, 10, 3, 2, 1, 1}, {5, -1, 3, 5, 2, 1}, {5, 10, 3, 5, 2, 8}, {5, 10, 3, 5, 2, -2}, {500, 10, 3, 5, 2, 1},
            {16, 10, 3, 5, 2, 1}, {5, 29990, 3, 8, 2, 1}, {5, 10, 3, MOST, 2, 1}, {5, 10, MOST, MOST, 6, 1},
            {5, MOST, 1, 1, 1, 1}, {5, 10, LEAST, 5, 2, 1}};
        for (int[] w : wrong) {
            due("every of what may not be", x.every(w[0], w[1], w[2], w[3], w[4], w[5]), BAD);
        }
        due("every to the last tick", x.every(5, 29990, 3, 7, 2, 1), 0);
        due("every, one alone", x.every(5, 10, 3, MOST, 1, 1), 2);
        begin("17 every: what an ARM holds");
        job("1x10");
        x.pass();
        due("every", x.every(0, 9, 1, 1, 1, 0), STATE);
        due("every", x.every(0, 10, 1, 1, 1, 0), 0);
    }

    private static void freedSpans() {
        begin("18 free");
        x.every(5, 0, 2, 2, 4, 0);
        due("free(4)", x.free(4), BAD);
        due("free(-1)", x.free(-1), BAD);
        due("free(1)", x.free(1), 3);
        due("free(1) once more", x.free(1), BAD);
        due("holes", x.holes(2, 2, 0), 16);
        x.step(2);
        due("free(0): it is gone", x.free(0), BAD);
        due("free(3)", x.free(3), 1);
        due("free(2)", x.free(2), 0);
        due("keep", x.keep(5, 2, 3, 0), 4);
    }

    // ---- 19 to 22: ticks

    private static void steps() {
        begin("19 step");
        due("step(0)", x.step(0), BAD);
        due("step(101)", x.step(101), BAD);
        due("step(-1)", x.step(-1), BAD);
        due("step(100)", x.step(100), 100);
        due("step(1)", x.step(1), 101);
        for (int i = 2; i < 1000; i++) {
            x.step(100);
        }
        due("now", x.count(7), 99901);
        due("step(99)", x.step(99), FULL);
        due("step(101)", x.step(101), BAD);
        due("step(98)", x.step(98), 99999);
        due("step(1)", x.step(1), FULL);
        begin("19 step: promises to the first ones are kept, others put in before them");
        job("10x10", 0, 5, 50, -1);
        job("8x10");
        job("6x11");
        job("6x10");
        x.step(1);
        due("of(1, 9)", x.of(1, 9), 10);
        due("of(2, 0): it would hold columns promised", x.of(2, 6), 0);
        x.step(4);
        due("of(0, 0): it lasted 5", x.of(0, 0), 2);
        x.step(1);
        due("of(1, 6)", x.of(1, 6), 5);
        due("of(1, 8)", x.of(1, 8), 10);
    }

    private static void passes() {
        begin("20 pass");
        due("pass of nothing", x.pass(), 0);
        job("10x10");
        job("7x10");
        job("6x10");
        job("1x1", 0, 5, 100, 0);
        due("pass", x.pass(), 2);
        due("once more", x.pass(), 0);
        due("now", x.count(7), 0);
        due("led(7)", x.led(7), 3);
        due("of(1, 9)", x.of(1, 9), 10);
        due("of(2, 6)", x.of(2, 6), 0);
        begin("20 pass: a PROMISE takes the first tick at which all ARMS find theirs");
        x.rule(0, 4);
        job("5x4,5x9,6x6");
        job("11x5,1x20");
        job("4x3");
        job("16x1");
        due("pass", x.pass(), 1);
        // the arms held: 6 wide 0-5 to 6; 5 wide 6-10 to 4, 11-15 to 9
        due("6 wide", x.arm(0, 2, 3), 0);
        due("5 wide", x.arm(0, 0, 3), 6);
        due("5 wide", x.arm(0, 1, 3), 11);
        due("of(1, 9): 0 to 10 are free at 6, but one more not till 9", x.of(1, 9), 9);
        due("of(2, 9): from 4 on, till the PROMISE at 9", x.of(2, 9), 4);
        due("of(3, 9)", x.of(3, 9), 29);
        due("promised(6, 4)", x.promised(6, 4), 2);
        due("promised(0, 9)", x.promised(0, 9), 1);
        begin("20 pass: no PROMISE if there is no such tick");
        x.keep(15, 10, 25000, -1);
        x.keep(15, 25000, 30000, 3);
        job("1x11");
        jobOf(3, "1x11");
        due("pass", x.pass(), 0);
        due("of(0, 9)", x.of(0, 9), NOT);
        due("of(1, 9): it is behind 20000", x.of(1, 9), NOT);
        job("1x10");
        due("pass", x.pass(), 1);
        begin("20 pass: a PROMISE at the last tick");
        x.keep(15, 1, 20000, -1);
        jobOf(3, "1x2");
        x.pass();
        due("of(0, 9)", x.of(0, 9), 20000);
        x.free(0);
        x.keep(15, 1, 20001, -1);
        x.pass();
        due("of(0, 9)", x.of(0, 9), NOT);
        begin("20 pass: a column that becomes blocked lets a JOB FIT");
        // free for 5 ticks: at 0 runs 0-2 and 4-5, so both arms want 4-5, where the long one finds none later
        x.keep(303, 0, 100, -1);
        x.keep(615, 0, 100, -1);
        x.keep(2, 9, 100, -1);
        x.free(2);
        x.keep(202, 6, 100, -1);
        x.keep(1, 10, 100, -1);
        job("2x5,2x20");
        x.pass();
        due("of(0, 9): at 2 the first run is 0-1", x.of(0, 9), 2);
    }

    private static void holders() {
        begin("21 holder");
        job("3x5,2x9");
        x.pass();
        int[] want = {0, 0, 0, 0, 0, NOT};
        for (int c = 0; c < 6; c++) {
            due("holder(" + c + ")", x.holder(c), want[c]);
        }
        x.step(5);
        due("holder(0)", x.holder(0), NOT);
        due("holder(3)", x.holder(3), 0);
        due("of(0, 0)", x.of(0, 0), 1);
        due("holder(-1)", x.holder(-1), BAD);
        due("holder(16)", x.holder(16), BAD);
    }

    private static void promisedColumns() {
        begin("22 promised");
        job("16x10");
        job("4x3,12x2");
        x.pass();
        due("promised(0, 9)", x.promised(0, 9), NOT);
        due("promised(0, 10)", x.promised(0, 10), 1);
        due("promised(11, 11)", x.promised(11, 11), 1);
        due("promised(11, 12)", x.promised(11, 12), NOT);
        due("promised(12, 12)", x.promised(12, 12), 1);
        due("promised(12, 13)", x.promised(12, 13), NOT);
        due("promised(12, MOST)", x.promised(12, MOST), NOT);
        x.step(4);
        due("promised(0, 10)", x.promised(0, 10), 1);
        due("promised(0, 3)", x.promised(0, 3), BAD);
        due("promised(0, 4)", x.promised(0, 4), NOT);
        due("promised(-1, 10)", x.promised(-1, 10), BAD);
        due("promised(16, 10)", x.promised(16, 10), BAD);
    }

    // ---- 23 to 32: in thought

    private static void foretold() {
        begin("23 foretell");
        job("16x10", 0, 5, 50, -1);
        job("16x200", 0, 5, 100, 0);
        job("16x90", 0, 5, 100, 1);
        job("1x1", 0, 5, 100, 2);
        job("9x1,9x1");
        x.step(2);
        due("foretell(1): as if it lasted as long as it asks", x.foretell(1), 10);
        due("foretell(2)", x.foretell(2), 210);
        due("foretell(3): at 300, the 299th tick", x.foretell(3), 300);
        due("foretell(4): never", x.foretell(4), NOT);
        due("foretell(0): it runs", x.foretell(0), STATE);
        due("foretell(-1)", x.foretell(-1), BAD);
        due("foretell(5)", x.foretell(5), BAD);
        x.hold(1, 1);
        due("foretell(1): HELD BACK", x.foretell(1), NOT);
        due("foretell(2)", x.foretell(2), NOT);
        due("in thought no PASSES", x.led(7), 2);
        begin("23 foretell: 300 ticks");
        x.keep(15, 1, 299, -1);
        job("16x2");
        x.pass();
        due("foretell(0) at 299", x.foretell(0), 299);
        x.free(0);
        x.keep(15, 1, 300, -1);
        due("foretell(0) at 300", x.foretell(0), NOT);
        begin("23 foretell: PERIOD and USED in thought");
        jobOf(0, "16x10");
        jobOf(0, "16x10");
        jobOf(1, "16x10");
        x.pass();
        due("foretell(1): the other ACCOUNT used less", x.foretell(1), 20);
        due("foretell(2)", x.foretell(2), 10);
        due("used(0)", x.used(0), 0);
        due("events", x.event(5, 0), NOT);
    }

    private static void plans() {
        begin("24 plan");
        job("16x10", 0, 1, 100, -1);
        job("8x5", 0, 2, 100, -1);
        job("9x5", 0, 3, 100, -1);
        job("7x5", 0, 2, 100, -1);
        job("1x1", 0, 0, 100, 0);
        job("16x1", 0, 9, 100, -1);
        x.hold(5, 1);
        int[] want = {2, 3, 1, 0, 4};
        due("plan(-1)", x.plan(-1), 5);
        for (int i = 0; i < 5; i++) {
            due("plan(" + i + ")", x.plan(i), want[i]);
        }
        due("plan(5)", x.plan(5), NOT);
        due("plan(-2)", x.plan(-2), BAD);
        x.step(1);
        due("plan(-1): those that wait", x.plan(-1), 3);
        due("plan(0)", x.plan(0), 1);
        due("count(2)", x.count(2), 2);
    }

    private static void byRules() {
        begin("25 byRule");
        due("of nothing", x.byRule(0, 1, 0), 0);
        due("of nothing", x.byRule(0, 1, 1), 0);
        due("of nothing", x.byRule(0, 1, 2), NOT);
        job("10x10");
        job("10x4");
        job("6x15");
        x.step(2);
        // with a PROMISE at 10 the last one waits for 14, else it runs already
        due("of(2, 6)", x.of(2, 6), 0);
        due("how many", x.byRule(0, 1, 0), 1);
        due("together", x.byRule(0, 1, 1), 8);
        due("greatest", x.byRule(0, 1, 2), 8);
        begin("25 byRule: DEPTH");
        job("10x10");
        job("10x4");
        job("12x5");
        job("6x15");
        due("DEPTH 0: 6x15 at once, 12x5 behind it", x.byRule(0, 0, 1), 10 + 15);
        due("DEPTH 0", x.byRule(0, 0, 2), 15);
        due("DEPTH 1: 6x15 is beside the PROMISE", x.byRule(0, 1, 1), 10 + 15);
        due("DEPTH 2: 6x15 behind the second PROMISE", x.byRule(0, 2, 1), 10 + 14 + 19);
        due("DEPTH 2", x.byRule(0, 2, 2), 19);
        due("the rule is as it was", x.rule(0, 1), 1);
        begin("25 byRule: WINDOW");
        job("10x10");
        job("10x10");
        job("1x10");
        due("WINDOW 80", x.byRule(1, 80, 1), 10);
        due("WINDOW 0", x.byRule(1, 0, 1), 20);
        due("the rule is as it was", x.rule(1, 80), 80);
        begin("25 byRule: PERIOD");
        jobOf(0, "8x5");
        x.step(5);
        jobOf(1, "16x2");
        jobOf(1, "16x3");
        jobOf(0, "16x4");
        // USED at 7: 40 and 32; halved at 6 and 7: 10 and 12
        due("PERIOD 0: account 1 goes on", x.byRule(2, 0, 1), 0 + 2 + 5);
        due("PERIOD 1: account 0 comes between", x.byRule(2, 1, 1), 0 + 6 + 2);
        due("PERIOD 1", x.byRule(2, 1, 2), 6);
        due("how many", x.byRule(2, 1, 0), 3);
        due("used(0) is as it was", x.used(0), 40);
        due("the rule is as it was", x.rule(2, 0), 0);
        int[][] wrong = {{-1, 0, 0}, {3, 0, 0}, {0, 5, 0}, {0, -1, 0}, {1, 81, 0}, {2, 101, 0}, {0, 1, -1}, {0, 1, 3}};
        for (int[] w : wrong) {
            due("byRule of what may not be", x.byRule(w[0], w[1], w[2]), BAD);
        }
    }

    private static void shrunkJobs() {
        begin("26 shrunk");
        x.keep(15, 7, 20, -1);
        job("4x10,2x3");
        job("1x200");
        job("16x7");
        due("shrunk(0): 10 * 79 / 100 is 7", x.shrunk(0), 79);
        due("shrunk(1): 200 * 3 / 100 is 6", x.shrunk(1), 3);
        due("shrunk(2)", x.shrunk(2), 100);
        x.keep(15, 0, 7, -1);
        due("shrunk(0): not even a tick", x.shrunk(0), NOT);
        due("shrunk(-1)", x.shrunk(-1), BAD);
        due("shrunk(3)", x.shrunk(3), BAD);
        x.free(0);
        x.free(1);
        x.pass();
        due("shrunk(0): it runs", x.shrunk(0), STATE);
        begin("26 shrunk: PROMISES of others as they are, its own left out");
        x.rule(0, 2);
        job("12x10");
        job("16x5");
        job("4x12");
        x.pass();
        due("of(1, 9)", x.of(1, 9), 10);
        due("of(2, 9)", x.of(2, 9), 15);
        due("shrunk(2): till 10", x.shrunk(2), 91);
        due("shrunk(1)", x.shrunk(1), NOT);
        begin("26 shrunk: 1 at least");
        x.keep(15, 1, 20, -1);
        job("1x100");
        due("shrunk(0)", x.shrunk(0), 1);
    }

    private static void movesOfArms() {
        begin("27 moves");
        job("2x50");
        job("3x20");
        job("2x50");
        job("3x20");
        job("6x50");
        x.step(20);
        // held: 0-1, 5-6, 10-15; free: 2-4, 7-9
        job("3x5");
        job("4x5");
        job("6x5");
        job("7x5");
        job("9x3");
        due("moves(5): it FITS", x.moves(5), 0);
        due("moves(6): one to another place", x.moves(6), 1);
        due("moves(7): that one leaves 2-9, and 0-1 is held, so it takes no place in it", x.moves(7), 1);
        due("moves(8)", x.moves(8), NOT);
        due("moves(9)", x.moves(9), NOT);
        due("moves(0): it runs", x.moves(0), STATE);
        due("moves(-1)", x.moves(-1), BAD);
        due("moves(10)", x.moves(10), BAD);
        due("all is as it was", x.holder(5), 2);
        begin("27 moves: two");
        job("1x9");
        job("1x50");
        job("4x9");
        job("1x50");
        job("9x50");
        x.step(9);
        // held: 1, 6, 7-15; free: 0, 2-5
        job("5x5");
        job("6x5");
        due("moves(5): the one at 1 or at 6 moves to 0 or stays beside", x.moves(5), 1);
        due("moves(6)", x.moves(6), NOT);
        begin("27 moves: what they are known to hold must be FREE for them");
        job("1x9");
        jobOf(1, "1x50");
        job("14x50");
        x.step(9);
        x.keep(0, 30, 31, 0);
        job("1x9");
        job("2x5");
        due("moves(3)", x.moves(3), 0);
        due("moves(4)", x.moves(4), NOT);
    }

    private static void togetherJobs() {
        begin("28 together");
        job("4x20");
        job("12x5");
        x.pass();
        job("8x5");
        job("1x5");
        job("12x5");
        x.step(5);
        // 8x5 STARTED? no: all is held till 5; now 12 are free, 8x5 is first in THE LINE
        due("together(2, 3)", x.together(2, 3), 3);
        due("together(3, 4): 13 columns", x.together(3, 4), 0);
        due("together(2, 2)", x.together(2, 2), BAD);
        due("together(-1, 2)", x.together(-1, 2), BAD);
        due("together(2, 5)", x.together(2, 5), BAD);
        due("together(0, 2): one runs", x.together(0, 2), STATE);
        due("together(2, 0): one runs", x.together(2, 0), STATE);
        begin("28 together: just one way round");
        // free for 5: 0-1 and 3-5; for 20: just 3-5
        x.keep(1, 5, 30, -1);
        x.keep(202, 0, 30, -1);
        x.keep(615, 0, 30, -1);
        job("3x5");
        job("3x20");
        job("2x5");
        job("2x20");
        due("together(0, 1)", x.together(0, 1), 0);
        due("together(2, 3)", x.together(2, 3), 3);
        due("together(1, 2)", x.together(1, 2), 3);
        x.keep(505, 7, 30, -1);
        x.keep(101, 0, 5, -1);
        // free for 5: 0 and 3-5; for 20: just 3-4
        job("1x5");
        job("2x20");
        due("together(4, 5)", x.together(4, 5), 3);
        job("1x6");
        due("together(6, 5): 1x6 takes a column of 3-5", x.together(6, 5), 2);
        due("together(5, 6)", x.together(5, 6), 1);
    }

    private static void gaps() {
        begin("29 gap");
        due("gap(3, 0, 0)", x.gap(3, 0, 0), 0);
        due("gap(3, 0, 1)", x.gap(3, 0, 1), NOT);
        due("gap(3, 1, 0)", x.gap(3, 1, 0), NOT);
        job("4x10", 0, 5, 20, -1);
        job("16x5");
        x.step(1);
        x.keep(3, 20, 25, 1);
        x.keep(1, 25, 30, -1);
        x.keep(1, 40, 41, -1);
        int[][] want = {{15, 5}, {30, 10}, {41, NOT}};
        for (int i = 0; i < 3; i++) {
            due("gap(0, " + i + ", 0)", x.gap(0, i, 0), want[i][0]);
            due("gap(0, " + i + ", 1)", x.gap(0, i, 1), want[i][1]);
        }
        due("gap(0, 3, 0)", x.gap(0, 3, 0), NOT);
        due("gap(2, 1, 0)", x.gap(2, 1, 0), 25);
        due("gap(4, 0, 0)", x.gap(4, 0, 0), 1);
        due("gap(4, 0, 1)", x.gap(4, 0, 1), 9);
        due("gap(0, MOST, 0)", x.gap(0, MOST, 0), NOT);
        int[][] wrong = {{-1, 0, 0}, {16, 0, 0}, {0, -1, 0}, {0, 0, -1}, {0, 0, 2}};
        for (int[] w : wrong) {
            due("gap of what may not be", x.gap(w[0], w[1], w[2]), BAD);
        }
    }

    private static void ordersOfArms() {
        begin("30 orders");
        job("1x1,1x1,1x1,1x1");
        job("9x1,8x1");
        job("3x1,2x9");
        job("5x5");
        due("orders(0, 0): like ARMS are told apart", x.orders(0, 0), 24);
        due("orders(1, 0)", x.orders(1, 0), 0);
        due("orders(3, 20000)", x.orders(3, 20000), 1);
        due("orders(3, 20001)", x.orders(3, 20001), BAD);
        due("orders(3, -1)", x.orders(3, -1), BAD);
        x.image();
        x.hold(0, 1);
        x.hold(2, 1);
        x.hold(3, 1);
        x.step(7);
        due("orders(3, 20007) at 7", x.orders(3, 20007), 1);
        due("orders(3, 20008) at 7", x.orders(3, 20008), BAD);
        due("orders(3, 6) at 7", x.orders(3, 6), BAD);
        x.back();
        due("orders(-1, 0)", x.orders(-1, 0), BAD);
        due("orders(4, 0)", x.orders(4, 0), BAD);
        // free: 0-1 till 5, 3-5
        x.keep(1, 5, 30, -1);
        x.keep(202, 0, 30, -1);
        x.keep(615, 0, 30, -1);
        due("orders(2, 0): both want 3-5", x.orders(2, 0), 0);
        due("orders(2, 30)", x.orders(2, 30), 2);
        job("2x1,2x9");
        due("orders(4, 0): the short one finds 0-1 either way", x.orders(4, 0), 2);
        x.free(2);
        x.keep(515, 0, 30, -1);
        // free: 0-1 till 5, 3-4
        due("orders(4, 0)", x.orders(4, 0), 2);
        x.keep(0, 3, 5, -1);
        job("1x1,2x1");
        due("orders(5, 0): 1 wide takes of 0-1, then 2 wide 3-4", x.orders(5, 0), 2);
        x.pass();
        due("orders of one that runs", x.orders(0, 0), STATE);
        begin("30 orders: its own PROMISE left out, others as they are");
        x.rule(0, 2);
        job("16x10");
        job("16x5");
        job("8x5,8x5");
        x.pass();
        due("orders(2, 14)", x.orders(2, 14), 0);
        due("orders(2, 15)", x.orders(2, 15), 2);
        due("orders(1, 10)", x.orders(1, 10), 1);
        due("orders(1, 11)", x.orders(1, 11), 0);
    }

    private static void costsOfJobs() {
        begin("31 costs");
        job("16x10");
        job("8x10", 0, 3, 100, -1);
        job("8x10", 0, 3, 100, -1);
        x.pass();
        due("costs 0", costs("16x7", 0, 5, 0), 10);
        due("costs 1: both wait 7 more", costs("16x7", 0, 5, 1), 14);
        due("costs 0 behind them", costs("16x7", 0, 1, 0), 20);
        due("costs 1 behind them", costs("16x7", 0, 1, 1), 0);
        due("costs 0 never", costs("9x7,9x1", 0, 9, 0), NOT);
        due("costs 1 never", costs("9x7,9x1", 0, 9, 1), 0);
        due("THE TAPE is empty", x.count(5), 0);
        due("FAULT", costs("9x7,", 0, 9, 0), -104);
        due("THE TAPE is empty", x.count(5), 0);
        due("no JOB came", x.count(0), 3);
        int[][] wrong = {{-1, 5, 0}, {8, 5, 0}, {0, -1, 0}, {0, 10, 0}, {0, 5, -1}, {0, 5, 2}};
        tell("16x7");
        for (int[] w : wrong) {
            due("costs of what may not be", x.costs(w[0], w[1], w[2]), BAD);
        }
        due("THE TAPE stays", x.count(5), 4);
        x.job(0, 5, 100, -1);
        for (int i = 4; i < 80; i++) {
            job("1x1");
        }
        tell("?");
        due("costs with 80 JOBS", x.costs(0, 5, 0), FULL);
        due("costs with 80 JOBS of what may not be", x.costs(0, 5, 2), BAD);
        due("THE TAPE stays", x.count(5), 1);
        begin("31 costs: a JOB that would not START, but whose PROMISE makes others START later");
        x.keep(7, 290, 500, -1);
        job("16x10");
        job("8x285", 0, 4, 100, -1);
        x.off(1);
        job("4x100", 0, 4, 100, -1);
        x.pass();
        due("costs 0", costs("16x200", 0, 5, 0), 10);
        due("costs 1", costs("16x200", 0, 5, 1), 200);
        begin("31 costs: those that START earlier by it do not count");
        job("16x10");
        x.pass();
        jobOf(1, "10x5");
        jobOf(1, "6x20");
        due("costs 1: 8x5 ahead of all", costs("8x5", 0, 9, 1), 5);
    }

    private static void earliestTicks() {
        begin("32 earliest");
        due("earliest", earliest("16x10", 0), 0);
        job("16x10");
        job("10x5");
        x.pass();
        due("earliest", earliest("7x1", 0), 15);
        due("earliest", earliest("6x1", 0), 10);
        due("earliest of too many", earliest("9x1,8x1", 0), NOT);
        due("THE TAPE is empty", x.count(5), 0);
        due("FAULT", earliest("9y1,8x1", 0), -101);
        due("THE TAPE is empty", x.count(5), 0);
        tell("1x1");
        due("earliest(-1)", x.earliest(-1), BAD);
        due("earliest(8)", x.earliest(8), BAD);
        due("THE TAPE stays", x.count(5), 3);
        due("earliest", x.earliest(7), 10);
        begin("32 earliest: to 20000 behind NOW, for its ACCOUNT");
        x.step(3);
        x.keep(15, 3, 20003, 1);
        due("earliest of another", earliest("1x1", 0), 20003);
        due("earliest of its own", earliest("1x1", 1), 3);
        x.keep(15, 20003, 20004, 2);
        due("earliest", earliest("1x1", 0), NOT);
        due("earliest", earliest("1x1", 2), 20003);
    }

    private static void holesOfSpans() {
        begin("33 holes");
        job("3x10");
        job("16x5");
        x.pass();
        x.keep(808, 4, 6, 0);
        due("holes(0, 1, 0)", x.holes(0, 1, 0), 13);
        due("holes(0, 1, 1)", x.holes(0, 1, 1), 13);
        due("holes(0, 5, 0)", x.holes(0, 5, 0), 12);
        due("holes(0, 5, 1)", x.holes(0, 5, 1), 7);
        due("holes(0, 10, 0)", x.holes(0, 10, 0), 12);
        due("holes(0, 11, 0): a PROMISE", x.holes(0, 11, 0), 0);
        due("holes(0, 11, 1)", x.holes(0, 11, 1), 0);
        due("holes(15, 500, 1)", x.holes(15, 500, 1), 16);
        due("holes(MOST, 500, 0)", x.holes(MOST, 500, 0), 16);
        x.step(2);
        int[][] wrong = {{1, 1, 0}, {2, 0, 0}, {2, 501, 0}, {2, 1, -1}, {2, 1, 2}, {LEAST, 1, 0}};
        for (int[] w : wrong) {
            due("holes of what may not be", x.holes(w[0], w[1], w[2]), BAD);
        }
    }

    // ---- 34 to 40: numbers

    private static void ledNumbers() {
        begin("34 led");
        job("10x10", 0, 5, 50, -1);
        job("10x10", 1, 5, 150, -1);
        job("6x4");
        x.step(2);
        job("6x3");
        job("1x1");
        x.off(4);
        x.step(4);
        // 0 and 2 START at 0, 2 behind 1, to 5 and 4; 3 at 4, behind 1; 1 at 5
        long[] want = {4, 2, 0, 1, 2, 0 + 0 + 2 + 5, 16 * 6 - 10 * 5 - 6 * 4 - 6 * 2 - 10, 6};
        for (int what = 0; what < 8; what++) {
            due("led(" + what + ")", x.led(what), want[what]);
        }
        x.step(9);
        due("led(2)", x.led(2), 1);
        due("led(-1)", x.led(-1), BAD);
        due("led(8)", x.led(8), BAD);
    }

    private static void charts() {
        begin("35 chart");
        job("2x3");
        due("chart(0, 1)", x.chart(0, 1), NOT);
        x.step(2);
        x.pass();
        x.off(0);
        job("1x2");
        x.step(3);
        int[] want = {NOT, 1, 1, 0, 0, NOT};
        for (int back = 1; back <= 6; back++) {
            due("chart(0, " + back + ")", x.chart(0, back), want[back - 1]);
        }
        due("chart(1, 4)", x.chart(1, 4), 0);
        due("chart(1, 3)", x.chart(1, 3), NOT);
        x.step(60);
        due("chart(0, 63)", x.chart(0, 63), 1);
        due("chart(0, 64)", x.chart(0, 64), 0);
        x.step(1);
        due("chart(0, 64)", x.chart(0, 64), 1);
        int[][] wrong = {{-1, 1}, {16, 1}, {0, 0}, {0, 65}, {0, -1}};
        for (int[] w : wrong) {
            due("chart of what may not be", x.chart(w[0], w[1]), BAD);
        }
    }

    private static void events() {
        begin("36 event");
        job("10x10", 0, 5, 50, -1);
        job("10x2", 1, 5, 150, -1);
        x.step(1);
        job("1x1", 0, 5, 100, 1);
        x.step(4);
        x.off(2);
        x.step(2);
        dueEvents(0, 0, 0, 0, 0, 1, 0, 1, 0, 0, 5, 1, 1, 0, 2, 5, 2, 0, 5, 4, 2, 5, 1, 1, 7, 3, 1);
        due("event(-1, 0)", x.event(-1, 0), BAD);
        due("event(0, -1)", x.event(0, -1), BAD);
        due("event(0, 3)", x.event(0, 3), BAD);
        due("event(MOST, 3)", x.event(MOST, 3), BAD);
        due("event(MOST, 0)", x.event(MOST, 0), NOT);
        begin("36 event: a PROMISE of another tick, or given up and got anew");
        job("16x10", 0, 5, 50, -1);
        job("8x10", 1, 5, 100, -1);
        x.pass();
        x.pass();
        job("16x3", 2, 9, 100, -1);
        x.pass();
        x.pass();
        x.off(2);
        x.pass();
        x.hold(1, 1);
        x.hold(1, 0);
        x.pass();
        dueEvents(0, 0, 0, 0, 0, 1, 0, 1, 0, 0, 5, 1, 0, 0, 2, 0, 5, 2, 0, 4, 2, 0, 5, 1, 0, 5, 1);
        begin("36 event: the latest 60");
        for (int i = 0; i < 40; i++) {
            job("1x1");
        }
        x.step(1);
        x.step(1);
        x.step(1);
        // 40 came, 16 STARTED and 16 are DONE twice, the last 8 STARTED and are DONE, two PROMISES
        due("event(60, 0)", x.event(60, 0), NOT);
        due("event(59, 0)", x.event(59, 0), 3);
        due("event(59, 1)", x.event(59, 1), 2);
        due("event(59, 2)", x.event(59, 2), 39);
        due("event(43, 1)", x.event(43, 1), 2);
        due("event(43, 2)", x.event(43, 2), 31);
        due("event(44, 1)", x.event(44, 1), 1);
        due("event(44, 0)", x.event(44, 0), 2);
        due("event(0, 1): of 122 the 62nd, the sixth that was DONE at 1", x.event(0, 1), 2);
        due("event(0, 2)", x.event(0, 2), 5);
        due("event(0, 0)", x.event(0, 0), 1);
    }

    private static void startedJobs() {
        begin("37 started");
        job("9x2", 0, 1, 100, -1);
        job("9x2");
        job("7x2");
        x.step(1);
        due("started(0)", x.started(0), 1);
        due("started(1)", x.started(1), 2);
        due("started(2)", x.started(2), NOT);
        x.step(2);
        due("started(2)", x.started(2), 0);
        due("started(3)", x.started(3), NOT);
        due("started(-1)", x.started(-1), BAD);
        due("started(MOST)", x.started(MOST), NOT);
    }

    private static void images() {
        begin("38, 39 image and back");
        job("9x6");
        job("9x4");
        x.weight(1, 3);
        x.limit(2, 4);
        x.rule(1, 7);
        x.keep(1515, 3, 9, 1);
        x.step(2);
        x.hold(job("1x1", 3, 3, 100, -1), 1);
        due("image", x.image(), 2);
        tell("3x");
        x.weight(1, 50);
        x.limit(2, 9);
        x.rule(0, 3);
        x.rule(1, 2);
        x.rule(2, 5);
        x.keep(1414, 3, 9, 1);
        x.free(0);
        x.rank(2, 9);
        x.hold(2, 0);
        x.off(0);
        x.step(30);
        tell("4");
        due("back", x.back(), 2);
        due("count(5): THE TAPE is not in it", x.count(5), 3);
        int[] counts = {3, 2, 1, 1, 9};
        for (int what = 0; what < 5; what++) {
            due("count(" + what + ")", x.count(what), counts[what]);
        }
        due("count(6)", x.count(6), 1);
        due("promised(8, 6)", x.promised(8, 6), 1);
        due("weight", x.weight(1, 3), 3);
        due("limit", x.limit(2, 4), 4);
        due("rule 0", x.rule(0, 1), 1);
        due("rule 1", x.rule(1, 7), 7);
        due("rule 2", x.rule(2, 0), 0);
        due("hold", x.hold(2, 1), 1);
        due("rank", x.rank(2, 3), 3);
        due("used", x.used(0), 18);
        due("led(0)", x.led(0), 1);
        due("led(3)", x.led(3), 0);
        due("led(7)", x.led(7), 2);
        due("chart(0, 2)", x.chart(0, 2), 0);
        due("chart(0, 3)", x.chart(0, 3), NOT);
        due("event(4, 1)", x.event(4, 1), 0);
        due("event(5, 1)", x.event(5, 1), NOT);
        due("started(1)", x.started(1), NOT);
        due("job of THE TAPE", x.job(0, 5, 100, -1), 3);
        due("keep: its number", x.keep(1414, 3, 9, 1), 1);
        x.step(7);
        due("of(1, 6)", x.of(1, 6), 6);
        due("back once more", x.back(), 2);
        due("of(1, 6)", x.of(1, 6), NOT);
        due("count(0)", x.count(0), 3);
        begin("39 back: at first all as it was at first");
        job("9x6");
        x.weight(4, 99);
        x.step(3);
        x.feed('1');
        due("back", x.back(), 0);
        int[] first = {0, 0, 0, 0, 0, 1, 0, 0};
        for (int what = 0; what < 8; what++) {
            due("count(" + what + ")", x.count(what), first[what]);
            due("led(" + what + ")", x.led(what), 0);
        }
        due("weight(4, 1)", x.weight(4, 1), 10);
        due("event(0, 0)", x.event(0, 0), NOT);
        due("used(0)", x.used(0), 0);
        due("chart(0, 1)", x.chart(0, 1), NOT);
    }

    private static void counts() {
        begin("40 count");
        x.rule(0, 2);
        job("9x6,2x3");
        job("9x4");
        job("8x4");
        job("1x1", 0, 0, 100, 0);
        x.keep(1515, 9, 10, 0);
        x.step(4);
        tell("12");
        int[] want = {4, 3, 1, 1, 9, 2, 2, 4};
        for (int what = 0; what < 8; what++) {
            due("count(" + what + ")", x.count(what), want[what]);
        }
        due("count(-1)", x.count(-1), BAD);
        due("count(8)", x.count(8), BAD);
    }

    // ---- more of what may go wrong in the same promises

    private static void limitCountsColumnZero() {
        begin("3 limit: the first column counts, too, and what STARTED in this PASS");
        x.limit(0, 2);
        jobOf(0, "1x5");
        x.step(1);
        jobOf(0, "1x9");
        jobOf(0, "1x9");
        due("pass", x.pass(), 1);
        due("of(2, 0)", x.of(2, 0), 0);
        due("foretell(2)", x.foretell(2), 5);
        x.limit(0, 0);
        due("foretell(2): never", x.foretell(2), NOT);
        begin("3 limit: in thought");
        x.limit(0, 3);
        jobOf(0, "2x20");
        jobOf(0, "2x20");
        jobOf(0, "1x20");
        due("foretell(1)", x.foretell(1), 20);
        due("foretell(2)", x.foretell(2), 0);
    }

    private static void spansBehindFreedOnes() {
        begin("18 free: those behind it stay as they are");
        due("keep", x.keep(3, 0, 10, 1), 0);
        due("keep", x.keep(407, 2, 12, 2), 1);
        due("keep", x.keep(811, 4, 14, -1), 2);
        due("free(0)", x.free(0), 2);
        due("keep over 1", x.keep(707, 11, 12, 0), STATE);
        due("keep over 2", x.keep(808, 13, 14, 0), STATE);
        due("keep behind 1", x.keep(407, 12, 13, 0), 3);
        due("keep behind 2", x.keep(811, 14, 15, 0), 4);
        due("earliest of account 1", earliest("16x3", 1), 15);
        due("earliest of account 1", earliest("12x4", 1), 15);
        due("earliest of account 2, whose own 1 is", earliest("12x4", 2), 0);
        due("gap(4, 0, 1)", x.gap(4, 0, 1), 2);
        due("gap(8, 0, 1)", x.gap(8, 0, 1), 4);
        due("gap(0, 0, 1)", x.gap(0, 0, 1), NOT);
        due("free(2)", x.free(2), 3);
        due("gap(8, 0, 1)", x.gap(8, 0, 1), 14);
        begin("19 step: spans end each at its tick");
        x.keep(0, 0, 3, -1);
        x.keep(101, 0, 2, -1);
        x.keep(202, 0, 3, -1);
        x.keep(303, 0, 4, -1);
        int[] left = {4, 3, 1, 0, 0};
        for (int t = 0; t < 5; t++) {
            x.step(1);
            due("count(3)", x.count(3), left[t]);
        }
    }

    private static void promisesOfTheFirstJob() {
        begin("22 promised: of JOB 0, just its columns, and at the very next tick");
        x.keep(15, 0, 1, -1);
        job("3x4,5x2");
        x.pass();
        due("of(0, 9)", x.of(0, 9), 1);
        due("count(6)", x.count(6), 1);
        due("promised(7, 1)", x.promised(7, 1), 0);
        due("promised(8, 1)", x.promised(8, 1), NOT);
        due("promised(7, 4)", x.promised(7, 4), 0);
        due("promised(4, 2)", x.promised(4, 2), 0);
        due("promised(4, 3)", x.promised(4, 3), NOT);
        due("promised(7, 5)", x.promised(7, 5), NOT);
        due("gap(4, 0, 0)", x.gap(4, 0, 0), 3);
        due("gap(5, 0, 0)", x.gap(5, 0, 0), 5);
        due("holes(1, 1, 1)", x.holes(1, 1, 1), 8);
        due("earliest", earliest("9x1", 0), 5);
        due("earliest", earliest("8x1,5x1", 0), 3);
    }

    private static void lastJobOfFourArms() {
        begin("the 80th JOB, of four ARMS");
        for (int i = 0; i < 79; i++) {
            x.hold(job("1x9"), 1);
        }
        x.keep(15, 0, 1, -1);
        job("4x1,1x2,4x3,2x4", 3, 9, 100, -1);
        x.pass();
        due("of(79, 9)", x.of(79, 9), 1);
        due("promised(9, 1)", x.promised(9, 1), 79);
        due("promised(10, 4)", x.promised(10, 4), NOT);
        due("holes(1, 1, 0)", x.holes(1, 1, 0), 5);
        x.step(3);
        due("of(79, 6)", x.of(79, 6), 1);
        due("count(4)", x.count(4), 6);
        due("off(79)", x.off(79), 1);
        due("count(4)", x.count(4), 0);
        int[] ends = {2, 3, 3, 3};
        for (int a = 0; a < 4; a++) {
            due("its END", x.arm(79, a, 4), ends[a]);
        }
        due("arm(79, 4, 0)", x.arm(79, 4, 0), BAD);
        due("of(78, 0)", x.of(78, 0), 0);
    }

    private static void allThatBlocks() {
        begin("20 pass: 12 spans, 3 PROMISES of four ARMS and ARMS that run, all in the way of the last one");
        x.rule(0, 4);
        for (int i = 0; i < 12; i++) {
            x.keep(1515, 100 + 2 * i, 101 + 2 * i, -1);
        }
        jobOf(0, "1x4,1x4,1x4,1x4");
        jobOf(1, "1x4,1x4,1x4,1x4");
        jobOf(2, "1x4,1x4,1x4,1x4");
        due("pass", x.pass(), 3);
        jobOf(3, "2x9,2x9,2x9,1x9");
        jobOf(4, "2x9,2x9,2x9,1x9");
        jobOf(5, "2x9,2x9,2x9,1x9");
        jobOf(6, "9x99");
        due("pass", x.pass(), 0);
        int[] want = {4, 4, 13, 22};
        for (int j = 3; j < 7; j++) {
            due("of(" + j + ", 9)", x.of(j, 9), want[j - 3]);
        }
        due("count(6)", x.count(6), 4);
        due("earliest, beside all", earliest("2x90", 7), 0);
        due("earliest, beside two", earliest("6x90", 7), 13);
        due("earliest, behind all", earliest("7x90", 7), 121);
        due("gap(15, 1, 0)", x.gap(15, 1, 0), 101);
    }

    private static void idleColumns() {
        begin("34 led: IDLE");
        x.step(2);
        due("led(6)", x.led(6), 32);
        job("5x2,3x1");
        x.step(3);
        due("led(6)", x.led(6), 32 + 8 + 11 + 16);
    }

    private static void thoughtsLastAsAsked() {
        begin("23 foretell: those that START in thought last as long as they ask, too");
        job("16x10", 0, 5, 50, -1);
        job("16x20", 1, 5, 10, 0);
        job("16x20", 2, 5, 10, 1);
        due("foretell(1)", x.foretell(1), 10);
        due("foretell(2)", x.foretell(2), 30);
        due("plan(2)", x.plan(2), 2);
        due("byRule greatest", x.byRule(0, 1, 2), 30);
        x.step(5);
        due("of(0, 0): it ended at 5", x.of(0, 0), 2);
        due("foretell(2)", x.foretell(2), 25);
        begin("23 foretell: an ARM that runs on the first column alone");
        job("1x10", 0, 5, 50, -1);
        x.pass();
        job("16x1");
        due("foretell(1)", x.foretell(1), 10);
    }

    private static void costsOfOrderedArms() {
        begin("31, 32 costs and earliest: the widest first");
        // free for 5 at 0: 0-1, 3-5; in the order told 2 wide takes 0-1 in any case, 1 wide first would not let it
        x.keep(202, 0, 30, -1);
        x.keep(615, 0, 30, -1);
        due("earliest", earliest("1x5,2x5,2x5", 0), 0);
        due("costs 0", costs("1x5,2x5,2x5", 0, 5, 0), 0);
        due("earliest the other way", earliest("2x5,2x5,1x5", 0), 0);
        begin("31 costs: one that STARTS just with it, or just without it, does not count");
        x.keep(15, 290, 600, -1);
        job("16x200");
        jobOf(1, "16x80", 4);
        x.pass();
        due("costs 1", costs("16x20", 2, 9, 1), 0);
        due("foretell(1)", x.foretell(1), 200);
        due("costs 1, still in these TICKS", costs("16x5", 2, 9, 1), 5);
    }

    private static void costsOfOneAheadOfOthers() {
        begin("31 costs: one that STARTS just with it does not count");
        job("16x10");
        x.pass();
        x.keep(15, 20, 400, -1);
        jobOf(1, "16x10");
        jobOf(2, "16x5");
        due("foretell(1)", x.foretell(1), 10);
        due("foretell(2): never", x.foretell(2), NOT);
        // by the new one account 1 has used more than account 2, whose JOB then STARTS at 15
        due("costs 0", costs("16x5", 1, 9, 0), 10);
        due("costs 1", costs("16x5", 1, 9, 1), 0);
        begin("31 costs: JOB 0 counts");
        x.keep(15, 0, 3, -1);
        job("16x4");
        due("costs 1", costs("16x5", 1, 9, 1), 5);
    }

    private static int jobOf(int account, String text, int rank) {
        return job(text, account, rank, 100, -1);
    }

    private static void movesInOrder() {
        begin("27 moves: PROMISES of others as they are");
        job("8x9");
        job("16x5");
        x.step(1);
        job("8x8");
        job("8x9");
        due("moves(2)", x.moves(2), 0);
        due("moves(3): a PROMISE at 9 is in the way", x.moves(3), NOT);
        due("moves(1): its own one is not", x.moves(1), NOT);
        x.off(1);
        due("moves(3)", x.moves(3), 0);
        begin("27 moves: two");
        job("2x9");
        job("2x50");
        job("2x9");
        job("2x50");
        job("3x9");
        job("5x50");
        x.step(9);
        // held: 2-3, 6-7, 11-15; free: 0-1, 4-5, 8-10
        job("7x5");
        job("6x5");
        job("5x5");
        job("8x5");
        due("moves(8): of 5-wide in 8-10: 6-7 moves to 0-1 or 4-5", x.moves(8), 1);
        due("moves(7): 4-10 without 6-7", x.moves(7), 1);
        due("moves(6): so, too", x.moves(6), 1);
        due("moves(9): 0-10 without both leaves 8-10 for just one", x.moves(9), NOT);
        x.off(5);
        jobOf(6, "12x5");
        due("moves(10): 4-15 without 6-7, which moves to 0-1", x.moves(10), 1);
        begin("27 moves: two, to the runs that are left");
        job("3x9");
        job("1x50");
        job("3x9");
        job("1x50");
        job("3x9");
        job("1x50");
        x.step(9);
        // held: 3, 7, 11
        String[] wide = {"4x5", "5x5", "7x5", "8x5", "9x5", "12x5", "13x5"};
        int[] want = {0, 1, 1, 1, 2, 2, NOT};
        for (int i = 0; i < 7; i++) {
            int j = job(wide[i]);
            due("moves of " + wide[i], x.moves(j), want[i]);
            x.off(j);
        }
        dueTwoMoves("the widest moves first", "2x50", 2, "3x50", 1, "4x9", 2);
        dueTwoMoves("of like ones the lesser JOB", "2x50", 1, "2x50", 2, "5x9", 2);
        dueTwoMoves("of like ones the lesser JOB, that takes the place of the other", "2x50", 2, "2x50", 1, "5x9", NOT);
    }

    private static void movesByNumbers() {
        begin("27 moves: of like ones the lesser JOB, though it stands behind the other");
        x.keep(1215, 0, 100, 2);
        jobOf(0, "3x9");
        jobOf(4, "2x9");
        jobOf(1, "2x50");
        jobOf(5, "5x9");
        x.step(9);
        jobOf(2, "2x50");
        x.pass();
        due("holder(0)", x.holder(0), 4);
        due("holder(5)", x.holder(5), 2);
        jobOf(3, "9x5");
        due("moves(5): 9-11 is left, 2 takes 9-10, 4 takes 11-12", x.moves(5), 2);
    }

    /** Behind a move of both to let 9 columns be taken 9-11 is left, and 12-15 for account 2 alone. */
    private static void dueTwoMoves(String about, String one, int account, String other, int itsAccount, String last,
            int want) {
        begin("27 moves: " + about);
        x.keep(1215, 0, 100, 2);
        jobOf(0, "3x9");
        jobOf(account, one);
        jobOf(itsAccount, other);
        jobOf(4, last);
        x.step(9);
        jobOf(3, "9x5");
        due("moves(4)", x.moves(4), want);
        due("holder(3)", x.holder(3), 1);
        due("holder(5)", x.holder(5), 2);
    }

    private static void imagesOfAllRows() {
        begin("39 back: rows of JOBS, ARMS, spans");
        x.keep(15, 0, 1, -1);
        job("8x6");
        x.image();
        x.pass();
        due("of(0, 8)", x.of(0, 8), 1);
        x.step(8);
        due("of(0, 7)", x.of(0, 7), 7);
        due("back", x.back(), 0);
        int[] never = {6, 7, 8, 9};
        for (int what : never) {
            due("of(0, " + what + ")", x.of(0, what), NOT);
        }
        due("arm(0, 0, 3)", x.arm(0, 0, 3), NOT);
        due("arm(0, 0, 4)", x.arm(0, 0, 4), NOT);
        due("count(3)", x.count(3), 1);
        begin("39 back: numbers of spans and where PROMISES are");
        x.keep(0, 0, 9, -1);
        x.keep(101, 0, 9, -1);
        x.keep(202, 0, 2, -1);
        x.free(0);
        job("14x1");
        x.pass();
        due("of(0, 9)", x.of(0, 9), 2);
        due("promised(2, 2)", x.promised(2, 2), 0);
        x.image();
        x.free(1);
        x.pass();
        due("promised(0, 2)", x.promised(0, 2), 0);
        x.back();
        due("promised(1, 2)", x.promised(1, 2), NOT);
        due("promised(15, 2)", x.promised(15, 2), 0);
        due("free(1)", x.free(1), 1);
        due("free(2)", x.free(2), 0);
        begin("39 back: EVENTS and CHART that were gone");
        job("1x3");
        x.step(5);
        x.image();
        for (int i = 0; i < 61; i++) {
            jobOf(1, "2x1");
        }
        x.step(100);
        x.back();
        dueEvents(0, 0, 0, 0, 1, 0, 3, 2, 0);
        int[] chart = {NOT, NOT, 0, 0, 0, NOT};
        for (int back = 1; back <= 6; back++) {
            due("chart(0, " + back + ")", x.chart(0, back), chart[back - 1]);
        }
        due("started(1)", x.started(1), NOT);
        begin("39 back: a JOB that comes anew is not HELD BACK");
        x.hold(job("1x1"), 1);
        x.back();
        job("1x1");
        due("pass", x.pass(), 1);
    }

    private static void moreGaps() {
        begin("29 gap: just what is on the column, whatever order it came in");
        x.keep(505, 30, 40, 0);
        x.keep(405, 10, 20, 1);
        x.keep(506, 20, 30, -1);
        x.keep(305, 2, 5, -1);
        int[][] want = {{0, 2}, {5, 5}, {40, NOT}};
        for (int i = 0; i < 3; i++) {
            due("gap(5, " + i + ", 0)", x.gap(5, i, 0), want[i][0]);
            due("gap(5, " + i + ", 1)", x.gap(5, i, 1), want[i][1]);
        }
        due("gap(6, 0, 1)", x.gap(6, 0, 1), 20);
        due("gap(6, 1, 0)", x.gap(6, 1, 0), 30);
        due("gap(4, 1, 1)", x.gap(4, 1, 1), 5);
        due("gap(4, 2, 0)", x.gap(4, 2, 0), 20);
        due("gap(3, 1, 0)", x.gap(3, 1, 0), 5);
        due("gap(7, 0, 1)", x.gap(7, 0, 1), NOT);
        job("6x2");
        x.pass();
        due("gap(5, 0, 0): it takes the shorter run at 6?", x.holder(6), NOT);
        due("gap(5, 0, 0)", x.gap(5, 0, 0), 5);
    }

    public static void main(String[] args) {
        newObject();
        weights();
        limits();
        rankedAccounts();
        rules();
        usedColumns();
        tape();
        faults();
        comingJobs();
        takenOff();
        ofJobs();
        armsOfJobs();
        theLine();
        ranks();
        heldBack();
        texts();
        keptSpans();
        everySpans();
        freedSpans();
        steps();
        passes();
        holders();
        promisedColumns();
        foretold();
        plans();
        byRules();
        shrunkJobs();
        movesOfArms();
        togetherJobs();
        gaps();
        ordersOfArms();
        costsOfJobs();
        earliestTicks();
        holesOfSpans();
        ledNumbers();
        charts();
        events();
        startedJobs();
        images();
        counts();
        limitCountsColumnZero();
        spansBehindFreedOnes();
        promisesOfTheFirstJob();
        lastJobOfFourArms();
        allThatBlocks();
        idleColumns();
        thoughtsLastAsAsked();
        costsOfOrderedArms();
        costsOfOneAheadOfOthers();
        movesInOrder();
        movesByNumbers();
        imagesOfAllRows();
        moreGaps();
        CHECKS.end();
    }
}
