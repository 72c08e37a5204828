/**
 * The edges that the document names in promises 23 to 40, each just inside and just outside, worked out by
 * hand; and that what is in thought, or refused, leaves all as it was.
 */
public final class MoreEdgesTest {
    private static final int BAD = Play.BAD, NOT = Play.NOT, STATE = Play.STATE;
    private static final int MOST = Play.MOST, LEAST = Play.LEAST;
    private static final int DONE_ONE = Play.DONE_ONE, CUT_ONE = Play.CUT_ONE, RUNS = Play.RUNS, WAITS = Play.WAITS,
        WAITS_AFTER = Play.WAITS_AFTER, HELD = Play.HELD, OFF_ONE = Play.OFF_ONE;
    private static final int[] NO_JOBS = {-1, 7, MOST, LEAST};
    private static final int[] NOT_WAITING = {DONE_ONE, CUT_ONE, RUNS, OFF_ONE};
    private static final Checks CHECKS = new Checks("MoreEdgesTest");

    private static Play begin(String about) {
        return new Play(CHECKS, about);
    }

    private static Play busy(String about) {
        return Play.busy(CHECKS, about);
    }

    // ---- 23 to 32: refused

    private static void refusedOfJobs() {
        Play p = busy("23, 26, 27, 28, 30 refused");
        GangColumns x = p.x;
        for (int j : NO_JOBS) {
            p.refused("foretell(" + j + ")", () -> x.foretell(j), BAD);
            p.refused("shrunk(" + j + ")", () -> x.shrunk(j), BAD);
            p.refused("moves(" + j + ")", () -> x.moves(j), BAD);
            p.refused("orders(" + j + ", 4)", () -> x.orders(j, 4), BAD);
            p.refused("together(" + j + ", 3)", () -> x.together(j, WAITS), BAD);
            p.refused("together(3, " + j + ")", () -> x.together(WAITS, j), BAD);
            p.refused("together(" + j + ", " + j + ")", () -> x.together(j, j), BAD);
        }
        for (int j : NOT_WAITING) {
            p.refused("foretell(" + j + ")", () -> x.foretell(j), STATE);
            p.refused("shrunk(" + j + ")", () -> x.shrunk(j), STATE);
            p.refused("moves(" + j + ")", () -> x.moves(j), STATE);
            p.refused("orders(" + j + ", 4)", () -> x.orders(j, 4), STATE);
            p.refused("orders(" + j + ", 20004)", () -> x.orders(j, 20004), STATE);
            p.refused("orders(" + j + ", 3)", () -> x.orders(j, 3), BAD);
            p.refused("orders(" + j + ", 20005)", () -> x.orders(j, 20005), BAD);
            p.refused("together(" + j + ", 3)", () -> x.together(j, WAITS), STATE);
            p.refused("together(3, " + j + ")", () -> x.together(WAITS, j), STATE);
            p.refused("together(" + j + ", " + j + ")", () -> x.together(j, j), BAD);
            p.refused("together(" + j + ", 7)", () -> x.together(j, 7), BAD);
        }
        p.refused("together(3, 3)", () -> x.together(WAITS, WAITS), BAD);
        int[] noTicks = {3, -1, 20005, MOST, LEAST};
        for (int t : noTicks) {
            p.refused("orders(3, " + t + ")", () -> x.orders(WAITS, t), BAD);
        }
    }

    private static void refusedOfOthers() {
        Play p = busy("24, 25, 29, 31, 32, 33 refused");
        GangColumns x = p.x;
        p.refused("plan(-2)", () -> x.plan(-2), BAD);
        p.refused("plan(LEAST)", () -> x.plan(LEAST), BAD);
        p.refused("plan(MOST)", () -> x.plan(MOST), NOT);
        int[][] byRule = {{-1, 0, 0}, {3, 0, 0}, {0, -1, 0}, {0, 5, 0}, {1, -1, 0}, {1, 81, 0}, {2, -1, 0},
            {2, 101, 0},
            {0, 1, -1}, {0, 1, 3}, {MOST, 0, 0}, {0, MOST, 0}, {0, 0, MOST}, {LEAST, 0, 0}, {0, LEAST, 0},
            {0, 0, LEAST}};
        for (int[] w : byRule) {
            p.refused("byRule(" + w[0] + ", " + w[1] + ", " + w[2] + ")", () -> x.byRule(w[0], w[1], w[2]), BAD);
        }
        int[][] gap = {{-1, 0, 0}, {16, 0, 0}, {0, -1, 0}, {0, 0, -1}, {0, 0, 2}, {MOST, 0, 0}, {LEAST, 0, 0},
            {0, LEAST, 0}, {0, 0, MOST}, {0, 0, LEAST}};
        for (int[] w : gap) {
            p.refused("gap(" + w[0] + ", " + w[1] + ", " + w[2] + ")", () -> x.gap(w[0], w[1], w[2]), BAD);
        }
        int[][] costs = {{-1, 5, 0}, {8, 5, 0}, {0, -1, 0}, {0, 10, 0}, {0, 5, -1}, {0, 5, 2}, {MOST, 5, 0},
            {LEAST, 5, 0}, {0, MOST, 0}, {0, LEAST, 0}, {0, 5, MOST}, {0, 5, LEAST}};
        for (int[] w : costs) {
            p.refused("costs(" + w[0] + ", " + w[1] + ", " + w[2] + ")", () -> x.costs(w[0], w[1], w[2]), BAD);
        }
        int[] accounts = {-1, 8, MOST, LEAST};
        for (int w : accounts) {
            p.refused("earliest(" + w + ")", () -> x.earliest(w), BAD);
        }
        p.due("THE TAPE stayed", x.count(5), 2);
        int[][] holes = {{3, 1, 0}, {-1, 1, 0}, {4, 0, 0}, {4, -1, 0}, {4, 501, 0}, {4, 1, -1}, {4, 1, 2},
            {LEAST, 1, 0}, {4, MOST, 0}, {4, LEAST, 0}, {4, 1, MOST}, {4, 1, LEAST}};
        for (int[] w : holes) {
            p.refused("holes(" + w[0] + ", " + w[1] + ", " + w[2] + ")", () -> x.holes(w[0], w[1], w[2]), BAD);
        }
    }

    private static void inThought() {
        Play p = busy("23 to 33: what is in thought changes nothing");
        GangColumns x = p.x;
        x.earliest(0);
        // 3x40 holds 4 to 6, 2x9 7 and 8 till 9, 14 and 15 are kept from 60; WAITS has the PROMISE of all at 40
        p.changesNothing("foretell(3)", () -> x.foretell(WAITS), 40);
        p.changesNothing("foretell(4)", () -> x.foretell(WAITS_AFTER), 44);
        p.changesNothing("foretell(5)", () -> x.foretell(HELD), NOT);
        p.changesNothing("plan(-1)", () -> x.plan(-1), 2);
        p.changesNothing("plan(1)", () -> x.plan(1), WAITS_AFTER);
        p.changesNothing("plan(2)", () -> x.plan(2), NOT);
        p.changesNothing("byRule(0, 4, 0)", () -> x.byRule(0, 4, 0), 2);
        p.changesNothing("byRule(1, 80, 1)", () -> x.byRule(1, 80, 1), 36 + 40);
        p.changesNothing("byRule(2, 100, 2)", () -> x.byRule(2, 100, 2), 40);
        p.changesNothing("shrunk(3)", () -> x.shrunk(WAITS), NOT);
        p.changesNothing("shrunk(4)", () -> x.shrunk(WAITS_AFTER), 100);
        p.changesNothing("moves(3)", () -> x.moves(WAITS), NOT);
        p.changesNothing("moves(5)", () -> x.moves(HELD), 0);
        p.changesNothing("together(4, 5)", () -> x.together(WAITS_AFTER, HELD), 3);
        p.changesNothing("together(3, 5)", () -> x.together(WAITS, HELD), 0);
        p.changesNothing("gap(4, 0, 0)", () -> x.gap(4, 0, 0), 44);
        p.changesNothing("orders(3, 40)", () -> x.orders(WAITS, 40), 1);
        p.changesNothing("orders(3, 39)", () -> x.orders(WAITS, 39), 0);
        p.tell("16x5");
        p.changesNothing("costs 0", () -> x.costs(0, 9, 0), 40);
        p.tell("16x5");
        p.changesNothing("costs 1", () -> x.costs(0, 9, 1), 10);
        p.tell("16x5");
        p.changesNothing("earliest", () -> x.earliest(0), 44);
        p.tell("9x5,8x5");
        p.changesNothing("earliest, none", () -> x.earliest(0), NOT);
        p.changesNothing("holes(4, 5, 0)", () -> x.holes(4, 5, 0), 11);
        p.changesNothing("holes(4, 5, 1)", () -> x.holes(4, 5, 1), 7);
    }

    // ---- 23 to 25

    private static void foretold() {
        for (int ticks = 298; ticks <= 301; ticks++) {
            Play p = begin("23 foretell: all kept for " + ticks + " ticks");
            p.x.step(3);
            p.x.keep(15, 3, 3 + ticks, -1);
            p.job(0, "1x1");
            int due = ticks < 300 ? 3 + ticks : NOT;
            p.due("foretell(0)", p.x.foretell(0), due);
            p.due("plan(-1)", p.x.plan(-1), ticks < 300 ? 1 : 0);
            p.due("byRule 0", p.x.byRule(1, 80, 0), ticks < 300 ? 1 : 0);
            p.due("byRule 1", p.x.byRule(1, 80, 1), ticks < 300 ? ticks : 0);
            p.due("byRule 2", p.x.byRule(1, 80, 2), ticks < 300 ? ticks : NOT);
            p.due("costs 0", p.costs("1x1", 0, 9, 0), due);
        }
        Play p = begin("23 foretell: at NOW; HELD BACK, behind one HELD BACK, above LIMIT: never");
        p.job(0, "1x1");
        p.job("1x1", 0, 5, 100, 0);
        p.job(7, "3x1");
        p.x.limit(7, 2);
        p.dueAll("foretell", new long[] {p.x.foretell(0), p.x.foretell(1), p.x.foretell(2)}, 0, 1, NOT);
        p.x.hold(0, 1);
        p.dueAll("foretell", new long[] {p.x.foretell(0), p.x.foretell(1), p.x.foretell(2)}, NOT, NOT, NOT);
        p.x.limit(7, 3);
        p.due("foretell(2)", p.x.foretell(2), 0);
        Play q = begin("23 foretell: behind one that would be CUT, and one that ends early");
        q.job("16x3", 0, 5, 150, -1);
        q.job("16x3", 0, 5, 1, 0);
        q.job("16x3", 0, 5, 100, 1);
        q.dueAll("foretell", new long[] {q.x.foretell(0), q.x.foretell(1), q.x.foretell(2)}, 0, 3, 6);
        q.x.step(1);
        q.dueAll("foretell at 1", new long[] {q.x.foretell(1), q.x.foretell(2)}, 3, 6);
    }

    private static void plans() {
        Play p = begin("24 plan: of 80");
        p.due("plan(-1) of none", p.x.plan(-1), 0);
        p.due("plan(0) of none", p.x.plan(0), NOT);
        for (int i = 0; i < 80; i++) {
            p.job(0, "1x1");
        }
        p.due("plan(-1)", p.x.plan(-1), 80);
        for (int i = 0; i < 80; i++) {
            p.due("plan(" + i + ")", p.x.plan(i), i);
        }
        p.due("plan(80)", p.x.plan(80), NOT);
        p.x.step(1);
        p.due("plan(-1): 16 START no more", p.x.plan(-1), 64);
        p.due("plan(0)", p.x.plan(0), 16);
        p.due("plan(63)", p.x.plan(63), 79);
        p.due("plan(64)", p.x.plan(64), NOT);
        p.x.step(4);
        p.due("plan(-1): all are DONE", p.x.plan(-1), 0);
        p.due("plan(0)", p.x.plan(0), NOT);
    }

    private static void byRules() {
        Play p = begin("25 byRule: the least and the most of each rule");
        p.job(0, "10x10");
        p.job(1, "10x4");
        p.job(2, "6x15");
        int[][] want = {{0, 0, 14}, {0, 4, 14}, {1, 0, 10 + 14}, {1, 80, 14}, {2, 0, 14}, {2, 100, 14}};
        // 2 STARTS at 0 beside 0, then 1 at 10; but by WINDOW 0 it is not looked at ahead of 1, which STARTS at 10
        for (int[] w : want) {
            int sum = w[0] == 1 && w[1] == 0 ? 10 + 10 : 10;
            p.due("byRule(" + w[0] + ", " + w[1] + ", 0)", p.x.byRule(w[0], w[1], 0), 3);
            p.due("byRule(" + w[0] + ", " + w[1] + ", 1)", p.x.byRule(w[0], w[1], 1), sum);
            p.due("byRule(" + w[0] + ", " + w[1] + ", 2)", p.x.byRule(w[0], w[1], 2), 10);
        }
        p.dueAll("the rules are as they were", new long[] {p.x.rule(0, 0), p.x.rule(1, 0), p.x.rule(2, 0)}, 1, 80, 0);
        Play q = begin("25 byRule: TICKS from NOW on, all that START at once");
        q.x.step(50);
        q.job(0, "8x2");
        q.job(1, "8x3");
        q.dueAll("byRule", new long[] {q.x.byRule(0, 1, 0), q.x.byRule(0, 1, 1), q.x.byRule(0, 1, 2)}, 2, 0, 0);
        q.x.pass();
        q.dueAll("none waits", new long[] {q.x.byRule(0, 1, 0), q.x.byRule(0, 1, 1), q.x.byRule(0, 1, 2)}, 0, 0, NOT);
    }

    // ---- 26 to 28

    private static void shrunk() {
        // ASKS, ticks FREE, due: the greatest p with ASKS * p / 100 (1 at least) at most the ticks
        int[][] rows = {{1, 1, 100}, {2, 2, 100}, {2, 1, 99}, {3, 1, 66}, {3, 2, 99}, {50, 1, 3}, {50, 49, 99},
            {100, 1, 1},
            {100, 99, 99}, {199, 1, 1}, {199, 2, 1}, {199, 3, 2}, {200, 2, 1}, {200, 1, NOT}, {200, 199, 99},
            {200, 200, 100}, {200, 0, NOT}, {1, 0, NOT}, {100, 0, NOT}};
        for (int[] r : rows) {
            Play p = begin("26 shrunk: " + r[0] + " of " + r[1]);
            p.x.step(5);
            p.x.keep(15, 5 + r[1], 6 + r[1], -1);
            p.job(0, "3x" + r[0]);
            p.due("shrunk(0)", p.x.shrunk(0), r[2]);
            p.x.hold(0, 1);
            p.due("shrunk(0), HELD BACK", p.x.shrunk(0), r[2]);
        }
        Play p = begin("26 shrunk: each ARM is shrunk");
        p.x.keep(7, 10, 11, -1);
        p.job(0, "8x20,8x40");
        // 8x20 takes 0-7 unless it asks more than 10, then 8-15 ahead of 8x40
        p.due("shrunk(0)", p.x.shrunk(0), 54);
        p.due("shrunk of what is too wide", p.x.shrunk(p.job(1, "9x1,8x1")), NOT);
    }

    private static void movesOfOne() {
        Play p = begin("27 moves: just the widest one, which is the first");
        p.job(0, "1x50");
        p.job(1, "6x9");
        p.job(2, "2x50");
        p.job(3, "7x9");
        p.x.step(9);
        // held: 0, 7 and 8
        p.due("moves of 12", p.x.moves(p.job(4, "12x5")), 1);
        p.due("moves of 13: 1-13, then 14 and 15 are left for it", p.x.moves(p.job(5, "13x5")), 1);
        p.due("moves of 14: 0-13, 14 and 15, and none is left for the other", p.x.moves(p.job(6, "14x5")), NOT);
        p.due("moves of 7", p.x.moves(p.job(7, "7x5")), 0);
        Play q = begin("27 moves: an ARM on the last COLUMN alone");
        q.job(0, "15x9");
        q.job(1, "1x50");
        q.x.step(9);
        q.due("moves of 15", q.x.moves(q.job(2, "15x5")), 0);
        q.due("moves of 7 twice, and 1", q.x.moves(q.job(3, "7x5,7x5,1x5")), 0);
        q.due("moves of 16", q.x.moves(q.job(4, "16x5")), NOT);
        q.x.keep(0, 9, 10, -1);
        q.due("moves of 15, one of them kept", q.x.moves(2), NOT);
        q.x.keep(707, 9, 60, -1);
        q.due("moves of 8: 8-15 without it", q.x.moves(q.job(5, "8x5")), 1);
        Play r = begin("27 moves: none runs");
        r.due("moves of 16", r.x.moves(r.job(0, "16x5")), 0);
        r.due("moves of 17", r.x.moves(r.job(1, "16x5,1x5")), NOT);
    }

    private static void movesAsLongAsKnown() {
        int[][] rows = {{50, 60, -1, 1}, {49, 50, -1, NOT}, {49, 50, 1, 1}, {49, 50, 2, NOT}, {9, 10, -1, NOT},
            {9, 50, 1, 1}};
        for (int[] r : rows) {
            Play p = begin("27 moves: kept from " + r[0] + " to " + r[1] + " for " + r[2]);
            p.job(0, "1x9");
            p.job("1x50", 1, 5, 40, -1);
            p.job(3, "14x9");
            p.x.step(9);
            // held: 1, as is known till 50; 15 wide takes 0-14, so it moves to 15
            p.x.keep(1515, r[0], r[1], r[2]);
            p.due("moves of 15", p.x.moves(p.job(4, "15x5")), r[3]);
        }
    }

    private static void together() {
        Play p = begin("28 together: just 16 COLUMNS, and one more");
        p.job(0, "8x5");
        p.job(1, "4x200,4x1");
        p.job(2, "9x1");
        p.job(3, "16x1");
        p.job(4, "16x1,1x1");
        p.dueAll("together", new long[] {p.x.together(0, 1), p.x.together(1, 0), p.x.together(0, 2),
            p.x.together(2, 1), p.x.together(3, 0), p.x.together(3, 4), p.x.together(4, 0)}, 3, 3, 0, 0, 0, 0, 0);
        Play q = begin("28 together: PROMISES of both are left out, others' are as they are");
        q.x.rule(0, 3);
        q.job(0, "16x9");
        q.job(1, "8x5");
        q.job(2, "8x5");
        q.job(3, "16x5");
        q.x.step(1);
        q.x.off(0);
        q.dueAll("PROMISES", new long[] {q.x.of(1, 9), q.x.of(2, 9), q.x.of(3, 9)}, 9, 9, 14);
        q.job(4, "8x8");
        q.job(5, "8x9");
        // 1 has 0-7 at 9 and 2 has 8-15: 8x9 may not be where the other's PROMISE is, and 8x5 takes 0-7 if it may
        q.dueAll("together", new long[] {q.x.together(1, 2), q.x.together(1, 4), q.x.together(4, 2),
            q.x.together(2, 5), q.x.together(1, 5), q.x.together(1, 3)}, 3, 3, 3, 3, 2, 0);
    }

    private static void promisesOfOthers() {
        Play p = begin("26, 27, 28, 30, 32: the PROMISE of JOB 0 is in the way of others");
        p.x.hold(p.job(0, "16x9"), 1);
        p.job(1, "8x5");
        p.x.pass();
        p.x.hold(0, 0);
        p.x.pass();
        p.due("of(0, 9)", p.x.of(0, 9), 5);
        p.job(2, "8x20");
        p.job(3, "2x5");
        p.dueAll("20 * 29 / 100 is 5", new long[] {p.x.shrunk(2), p.x.shrunk(3)}, 29, 100);
        p.dueAll("moves", new long[] {p.x.moves(2), p.x.moves(3)}, NOT, 0);
        p.dueAll("orders", new long[] {p.x.orders(2, 0), p.x.orders(2, 13), p.x.orders(2, 14), p.x.orders(3, 0)},
            0, 0, 1, 1);
        p.dueAll("together", new long[] {p.x.together(2, 3), p.x.together(3, 2)}, 0, 0);
        p.due("earliest", p.earliest("8x20", 2), 14);
        Play q = begin("26, 27, 28, 30, 32: a JOB's own PROMISE is not in its way, but in that of a like one");
        q.job(0, "16x5");
        q.job(1, "16x10");
        q.job(2, "1x1,1x1");
        q.x.pass();
        q.x.off(0);
        q.due("of(1, 9)", q.x.of(1, 9), 5);
        q.dueAll("all find theirs at once", new long[] {q.x.shrunk(1), q.x.moves(1), q.x.orders(1, 0),
            q.x.orders(1, 4), q.x.orders(1, 14)}, 100, 0, 1, 1, 1);
        q.dueAll("orders of the other one", new long[] {q.x.orders(2, 4), q.x.orders(2, 5), q.x.orders(2, 14),
            q.x.orders(2, 15)}, 2, 0, 0, 2);
        q.dueAll("earliest", new long[] {q.earliest("16x10", 1), q.earliest("16x5", 1)}, 15, 0);
    }

    private static void movesOfLaterArms() {
        Play p = begin("27 moves: each ARM of a JOB is there, unless it is moved");
        p.job(0, "8x9,8x9");
        p.x.pass();
        p.due("moves of 8: nothing is left for the one that moves", p.x.moves(p.job(1, "8x5")), NOT);
        p.due("shrunk of 8", p.x.shrunk(1), NOT);
        Play q = begin("27 moves: the second ARM moves, or finds nothing");
        q.job(0, "4x3,2x9");
        q.x.step(3);
        // 4 and 5 are held; without them 12 wide takes 0-11, so 2 wide moves to 12 and 13
        q.due("moves of 12", q.x.moves(q.job(1, "12x5")), 1);
        q.due("moves of 14", q.x.moves(q.job(2, "14x5")), 1);
        q.due("moves of 15", q.x.moves(q.job(3, "15x5")), NOT);
        q.due("moves of 10, which takes 6-15", q.x.moves(q.job(4, "10x5")), 0);
    }

    // ---- 29, 30

    private static void spansUnderWay() {
        Play p = begin("29, 32, 33: a span that began ahead of NOW");
        p.x.keep(707, 0, 10, 2);
        p.x.keep(1515, 2, 20, -1);
        p.x.step(3);
        p.dueAll("gap(7)", new long[] {p.x.gap(7, 0, 0), p.x.gap(7, 0, 1), p.x.gap(7, 1, 0)}, 10, NOT, NOT);
        p.dueAll("gap(15)", new long[] {p.x.gap(15, 0, 0), p.x.gap(15, 0, 1), p.x.gap(15, 1, 0)}, 20, NOT, NOT);
        p.dueAll("holes", new long[] {p.x.holes(3, 1, 0), p.x.holes(3, 1, 1), p.x.holes(9, 1, 0), p.x.holes(10, 1, 0),
            p.x.holes(10, 1, 1), p.x.holes(20, 1, 0)}, 14, 7, 14, 15, 15, 16);
        p.dueAll("earliest", new long[] {p.earliest("16x1", 1), p.earliest("15x1", 1), p.earliest("15x1", 2),
            p.earliest("8x1", 1)}, 20, 10, 3, 10);
        p.refused("keep over it", () -> p.x.keep(7, 3, 4, 2), STATE);
        p.x.keep(707, 10, 12, 4);
        p.dueAll("gap(7) behind both", new long[] {p.x.gap(7, 0, 0), p.x.gap(7, 0, 1)}, 12, NOT);
    }

    private static void gaps() {
        Play p = begin("29 gap: spans told the last first, one behind the other");
        p.x.keep(707, 30, 40, 0);
        p.x.keep(707, 20, 30, 1);
        p.x.keep(707, 10, 20, -1);
        p.x.keep(707, 0, 10, 2);
        p.dueAll("gap(7)", new long[] {p.x.gap(7, 0, 0), p.x.gap(7, 0, 1), p.x.gap(7, 1, 0), p.x.gap(7, 1, 1)},
            40, NOT, NOT, NOT);
        p.dueAll("gap(6)", new long[] {p.x.gap(6, 0, 0), p.x.gap(6, 0, 1), p.x.gap(6, 1, 0)}, 0, NOT, NOT);
        p.x.free(2);
        p.dueAll("gap(7)", new long[] {p.x.gap(7, 0, 0), p.x.gap(7, 0, 1), p.x.gap(7, 1, 0), p.x.gap(7, 1, 1),
            p.x.gap(7, 2, 0)}, 10, 10, 40, NOT, NOT);
        p.x.step(15);
        p.dueAll("gap(7) from NOW on", new long[] {p.x.gap(7, 0, 0), p.x.gap(7, 0, 1)}, 15, 5);
        p.x.step(5);
        p.dueAll("gap(7) at 20", new long[] {p.x.gap(7, 0, 0), p.x.gap(7, 0, 1)}, 40, NOT);
        Play q = begin("29 gap: of one tick; 13 of them by 12 spans");
        q.x.every(0, 1, 1, 2, 6, 3);
        q.x.every(0, 13, 1, 2, 6, 3);
        for (int i = 0; i < 13; i++) {
            q.due("gap(0, " + i + ", 0)", q.x.gap(0, i, 0), 2 * i);
            q.due("gap(0, " + i + ", 1)", q.x.gap(0, i, 1), i < 12 ? 1 : NOT);
        }
        q.due("gap(0, 13, 0)", q.x.gap(0, 13, 0), NOT);
        q.due("gap(0, MOST, 1)", q.x.gap(0, MOST, 1), NOT);
        Play r = begin("29 gap: what an ARM asks, though it ends early; PROMISES");
        r.job("16x9", 0, 5, 50, -1);
        r.job(1, "16x5");
        r.x.pass();
        r.dueAll("gap(15)", new long[] {r.x.gap(15, 0, 0), r.x.gap(15, 1, 0)}, 14, NOT);
        r.x.hold(1, 1);
        r.due("gap(15): the PROMISE is given up", r.x.gap(15, 0, 0), 9);
        r.x.step(4);
        r.due("gap(15): it let go", r.x.gap(15, 0, 0), 4);
    }

    private static void orders() {
        Play p = begin("30 orders: of 1, 2, 3, 4 ARMS, all find theirs");
        String[] texts = {"1x1", "1x1,1x1", "1x1,1x1,1x1", "1x1,1x1,1x1,1x1"};
        int[] all = {1, 2, 6, 24};
        p.x.step(6);
        for (int i = 0; i < 4; i++) {
            int j = p.job(i, texts[i]);
            p.dueAll("orders", new long[] {p.x.orders(j, 6), p.x.orders(j, 20006), p.x.orders(j, 20007),
                p.x.orders(j, 5)},
                all[i], all[i], BAD, BAD);
        }
        Play q = begin("30 orders: some of them");
        // free: 0-2, 4-6, 8-15
        q.x.keep(303, 0, 9, -1);
        q.x.keep(707, 0, 9, -1);
        q.job(0, "1x1,3x1,3x1,6x1");
        // 1 wide ahead of 6 wide takes of 0-2, or of 4-6 behind a 3 wide, which is then too short for the other: it
        // must be behind both. Behind 6 wide, which takes 8-13, it takes 14. These are 12 of 1, 3, 3, 6 less 5.
        q.due("orders(0, 0): the two of 3 either way", q.x.orders(0, 0), 2 * (12 - 5));
        q.x.keep(15, 9, 10, 4);
        q.job(4, "16x1");
        q.job(5, "16x1");
        q.dueAll("kept for an ACCOUNT", new long[] {q.x.orders(1, 9), q.x.orders(2, 9), q.x.orders(2, 10)}, 1, 0, 1);
    }

    // ---- 31 to 33

    private static void costs() {
        Play p = begin("31 costs: with 79 JOBS");
        for (int i = 0; i < 79; i++) {
            p.x.hold(p.job(i % 8, "1x1"), 1);
        }
        p.x.hold(78, 0);
        p.dueAll("costs", new long[] {p.costs("16x3", 7, 9, 0), p.costs("16x3", 7, 9, 1), p.costs("16x3", 7, 0, 0),
            p.costs("16x3", 7, 0, 1)}, 0, 3, 1, 0);
        p.due("count(0)", p.x.count(0), 79);
        p.due("the 80th comes behind all that", p.job(0, "1x1"), 79);
        Play q = begin("31 costs: of no others, of RANK and ACCOUNT as told, of PART 100");
        q.dueAll("alone", new long[] {q.costs("16x200", 0, 0, 0), q.costs("16x200", 0, 0, 1)}, 0, 0);
        q.job(0, "16x5");
        q.job(1, "16x7");
        q.x.pass();
        q.dueAll("ACCOUNT 0 has used none yet", new long[] {q.costs("16x3", 0, 5, 0), q.costs("16x3", 2, 5, 0)}, 12,
            12);
        q.x.step(1);
        q.dueAll("it has now", new long[] {q.costs("16x3", 0, 5, 0), q.costs("16x3", 2, 5, 0), q.costs("16x3", 2, 6,
            0),
            q.costs("16x3", 2, 6, 1), q.costs("16x3", 2, 4, 1)}, 12, 12, 5, 3, 0);
        q.x.limit(2, 15);
        q.dueAll("above LIMIT it never STARTS", new long[] {q.costs("16x3", 2, 9, 0), q.costs("16x3", 2, 9, 1)}, NOT,
            0);
        q.due("NOT empties THE TAPE", q.x.count(5), 0);
    }

    private static void earliest() {
        for (int last = 19999; last <= 20001; last++) {
            Play p = begin("32 earliest: kept till " + last + " behind NOW");
            p.x.step(2);
            p.x.keep(303, 2, 2 + last, 6);
            p.due("earliest of others", p.earliest("16x200", 5), last <= 20000 ? 2 + last : NOT);
            p.due("NOT empties THE TAPE", p.x.count(5), 0);
            p.due("earliest of its own", p.earliest("16x200", 6), 2);
            p.due("beside it", p.earliest("12x200", 5), 2);
        }
        Play p = begin("32 earliest: PROMISES are kept, LIMIT does not matter");
        p.x.limit(3, 0);
        p.job(0, "16x4");
        p.job(1, "10x4");
        p.x.pass();
        p.dueAll("earliest", new long[] {p.earliest("6x9", 3), p.earliest("7x9", 3), p.earliest("16x1", 3)}, 4, 8, 8);
    }

    private static void holes() {
        Play p = begin("33 holes: 1 and 500 ticks, each edge of a span");
        p.x.keep(710, 500, 501, 3);
        p.dueAll("holes", new long[] {p.x.holes(0, 500, 0), p.x.holes(0, 500, 1), p.x.holes(1, 500, 0),
            p.x.holes(1, 500, 1),
            p.x.holes(500, 1, 0), p.x.holes(500, 1, 1), p.x.holes(499, 1, 0), p.x.holes(501, 500, 0),
            p.x.holes(501, 1, 1)}, 16, 16, 12, 7, 12, 7, 16, 16, 16);
        p.x.keep(1515, 500, 501, -1);
        p.dueAll("two runs", new long[] {p.x.holes(500, 1, 0), p.x.holes(500, 1, 1)}, 11, 7);
        p.x.keep(6, 500, 501, -1);
        p.dueAll("the last one", new long[] {p.x.holes(500, 1, 0), p.x.holes(500, 1, 1)}, 4, 4);
        p.x.keep(1114, 500, 501, -1);
        p.dueAll("none", new long[] {p.x.holes(500, 1, 0), p.x.holes(500, 1, 1)}, 0, 0);
        p.due("far off", p.x.holes(MOST, 500, 1), 16);
        Play q = begin("33 holes: known to be held, promised");
        q.job("4x9", 0, 5, 10, -1);
        q.job(1, "13x3");
        q.x.pass();
        q.dueAll("holes", new long[] {q.x.holes(0, 9, 0), q.x.holes(8, 1, 1), q.x.holes(8, 2, 0), q.x.holes(9, 3, 1),
            q.x.holes(11, 1, 0), q.x.holes(12, 1, 0)}, 12, 12, 3, 3, 3, 16);
    }

    // ---- 34 to 37

    private static void led() {
        Play p = busy("34 led");
        // 16 COLUMNS, 4 ticks: 0 held 2 for 1, 1 held 2 for 3, 2 held 5
        long[] want = {3, 1, 1, 1, 0, 0, 64 - 2 - 6 - 20, 4};
        for (int what = 0; what < 8; what++) {
            p.due("led(" + what + ")", p.x.led(what), want[what]);
        }
        int[] wrong = {-1, 8, MOST, LEAST};
        for (int w : wrong) {
            p.due("led(" + w + ")", p.x.led(w), BAD);
            p.due("count(" + w + ")", p.x.count(w), BAD);
        }
        long[] counts = {7, 3, 1, 1, 5, 2, 1, 4};
        for (int what = 0; what < 8; what++) {
            p.due("count(" + what + ")", p.x.count(what), counts[what]);
        }
        Play q = begin("34 led: STARTED ahead of one, TICKS waited");
        q.x.step(2);
        q.job(0, "9x4");
        q.job(1, "9x4");
        q.job(2, "7x4");
        q.job(3, "1x4");
        q.x.limit(3, 0);
        q.x.step(3);
        q.dueAll("2 STARTED ahead of 1", new long[] {q.x.led(0), q.x.led(4), q.x.led(5)}, 2, 1, 0);
        q.x.limit(3, 1);
        q.x.step(1);
        q.dueAll("none", new long[] {q.x.led(0), q.x.led(4), q.x.led(5)}, 2, 1, 0);
        q.x.step(1);
        q.dueAll("1 waited 4, 3 so, too", new long[] {q.x.led(0), q.x.led(4), q.x.led(5)}, 4, 1, 8);
        Play t = begin("34 led: ahead of one that did not START, though it has no PROMISE");
        t.x.rule(0, 0);
        t.job(0, "15x9");
        t.job(1, "2x1");
        t.job(2, "1x1");
        t.x.pass();
        t.dueAll("led", new long[] {t.x.led(0), t.x.led(4), t.x.count(6)}, 2, 1, 0);
        Play r = begin("34 led: none behind one passed over by LIMIT");
        r.x.limit(0, 1);
        r.job(0, "2x2");
        r.job(1, "1x1");
        r.x.pass();
        r.dueAll("led", new long[] {r.x.led(0), r.x.led(4), r.x.led(7)}, 1, 0, 1);
    }

    private static void charts() {
        Play p = begin("35 chart: the latest 64, begun anew");
        for (int i = 0; i < 80; i++) {
            p.job(0, "16x1");
        }
        int[] nows = {1, 63, 64, 65, 79, 80, 81, 130, 144, 145};
        for (int now : nows) {
            p.x.step(now - p.x.count(7));
            for (int back = 1; back <= 64; back++) {
                int tick = now - back;
                p.due("at " + now + " chart(15, " + back + ")", p.x.chart(15, back),
                    tick < 0 || tick > 79 ? NOT : tick);
            }
            p.dueAll("refused", new long[] {p.x.chart(15, 0), p.x.chart(15, 65), p.x.chart(-1, 1), p.x.chart(16, 1),
                p.x.chart(0, -1), p.x.chart(0, MOST), p.x.chart(0, LEAST), p.x.chart(MOST, 1), p.x.chart(LEAST, 1)},
                BAD, BAD, BAD, BAD, BAD, BAD, BAD, BAD, BAD);
        }
        Play q = begin("35 chart: each COLUMN");
        q.x.keep(14, 0, 9, 6);
        q.job(1, "1x2");
        q.job(6, "3x1");
        q.x.step(2);
        q.dueAll("chart", new long[] {q.x.chart(15, 1), q.x.chart(15, 2), q.x.chart(15, 3), q.x.chart(0, 1),
            q.x.chart(0, 2), q.x.chart(2, 2), q.x.chart(3, 2), q.x.chart(14, 2)}, 0, 0, NOT, NOT, 1, 1, NOT, NOT);
    }

    private static void events() {
        Play p = begin("36 event: 59, 60, 61 of them");
        p.due("event(0, 0) of none", p.x.event(0, 0), NOT);
        for (int i = 0; i < 59; i++) {
            p.job(0, "1x1");
        }
        p.dueAll("59", new long[] {p.x.event(0, 2), p.x.event(58, 2), p.x.event(59, 2), p.x.event(59, 0)}, 0, 58,
            NOT, NOT);
        p.job(0, "1x1");
        p.dueAll("60", new long[] {p.x.event(0, 2), p.x.event(59, 2), p.x.event(60, 2)}, 0, 59, NOT);
        p.job(0, "1x1");
        p.dueAll("61", new long[] {p.x.event(0, 2), p.x.event(59, 2), p.x.event(60, 2)}, 1, 60, NOT);
        p.x.off(3);
        p.dueAll("62", new long[] {p.x.event(0, 2), p.x.event(58, 2), p.x.event(59, 2), p.x.event(59, 1),
            p.x.event(60, 1)}, 2, 60, 3, 4, NOT);
        for (int i = 4; i < 61; i++) {
            p.x.off(i);
        }
        // 61 came, 58 are OFF: 119, of which the first kept is the 60th
        p.dueAll("119", new long[] {p.x.event(0, 2), p.x.event(0, 1), p.x.event(1, 2), p.x.event(2, 2),
            p.x.event(2, 1), p.x.event(59, 2)}, 59, 0, 60, 3, 4, 60);
        p.x.off(0);
        p.x.off(1);
        p.dueAll("121", new long[] {p.x.event(0, 2), p.x.event(0, 1), p.x.event(57, 2), p.x.event(58, 2),
            p.x.event(59, 2)},
            3, 4, 60, 0, 1);
        p.dueAll("refused", new long[] {p.x.event(-1, 0), p.x.event(LEAST, 0), p.x.event(0, -1), p.x.event(0, 3),
            p.x.event(60, 3), p.x.event(MOST, -1), p.x.event(MOST, 0)}, BAD, BAD, BAD, BAD, BAD, BAD, NOT);
        Play q = begin("36 event: a refused call makes none");
        q.tell("1y");
        q.x.job(0, 5, 100, -1);
        q.x.off(0);
        q.x.step(0);
        q.due("event(0, 0)", q.x.event(0, 0), NOT);
        q.x.step(100);
        q.job(0, "1x1");
        q.dueAll("came at 100", new long[] {q.x.event(0, 0), q.x.event(0, 1), q.x.event(0, 2)}, 100, 0, 0);
    }

    private static void eventsOfPromises() {
        Play p = begin("36 event: a PROMISE of the same tick as before is none, of another one is");
        p.job(0, "16x9");
        p.job(1, "16x9");
        p.x.step(3);
        dueEvents(p, 3, 0, 5, 1);
        p.due("event(4, 0)", p.x.event(4, 0), NOT);
        p.x.keep(15, 9, 10, -1);
        p.x.step(1);
        dueEvents(p, 4, 3, 5, 1);
        p.due("event(5, 0)", p.x.event(5, 0), NOT);
        p.x.rule(0, 0);
        p.x.pass();
        p.x.rule(0, 1);
        p.x.pass();
        dueEvents(p, 5, 4, 5, 1);
        p.due("of(1, 8): FIRST PROMISE", p.x.of(1, 8), 9);
        p.due("of(1, 9)", p.x.of(1, 9), 10);
        p.due("event(6, 0)", p.x.event(6, 0), NOT);
    }

    private static void dueEvents(Play p, int i, int tick, int kind, int job) {
        p.dueAll("event(" + i + ")", new long[] {p.x.event(i, 0), p.x.event(i, 1), p.x.event(i, 2)}, tick, kind, job);
    }

    private static void started() {
        Play p = begin("37 started: 80");
        p.due("started(0) of none", p.x.started(0), NOT);
        for (int i = 0; i < 80; i++) {
            p.job("4x1", 0, i < 76 ? 5 : 6, 100, -1);
        }
        p.x.step(20);
        for (int i = 0; i < 80; i++) {
            p.due("started(" + i + ")", p.x.started(i), i < 4 ? 76 + i : i - 4);
        }
        p.dueAll("started", new long[] {p.x.started(80), p.x.started(MOST), p.x.started(-1), p.x.started(LEAST)},
            NOT, NOT, BAD, BAD);
        p.dueAll("led", new long[] {p.x.led(0), p.x.led(1)}, 80, 80);
    }

    // ---- 38 to 40

    private static void images() {
        Play p = begin("38, 39 image and back: all is as it was, the last of each row, too");
        String first = p.all();
        for (int i = 0; i < 78; i++) {
            p.job(i % 8 == 0 ? 7 : 0, "16x1");
        }
        p.x.weight(7, 33);
        p.x.limit(7, 16);
        p.x.rule(0, 2);
        p.x.rule(2, 9);
        p.x.step(75);
        p.job("3x5,1x9,2x50,4x4", 7, 9, 77, -1);
        p.job("3x50,1x9,2x50,10x4", 7, 8, 78, -1);
        p.x.keep(1515, 90, 99, 7);
        p.x.keep(1414, 90, 99, -1);
        p.x.hold(77, 1);
        p.x.step(2);
        p.due("image", p.x.image(), 77);
        String then = p.all();
        p.x.weight(7, 34);
        p.x.limit(7, 15);
        p.x.rule(0, 4);
        p.x.rule(1, 4);
        p.x.rule(2, 4);
        p.x.free(0);
        p.x.keep(1313, 90, 99, 0);
        p.x.hold(77, 0);
        p.x.off(79);
        p.x.step(99);
        p.tell("1x");
        p.holds("all is another than then", !p.all().equals(then));
        p.due("back", p.x.back(), 77);
        p.due("THE TAPE stays", p.x.count(5), 2);
        p.x.earliest(0);
        p.holds("all is as it was then", p.all().equals(then));
        p.dueAll("its spans", new long[] {p.x.free(2), p.x.count(3), p.x.free(0), p.x.free(1)}, BAD, 2, 1, 0);
        p.due("back once more", p.x.back(), 77);
        p.holds("all is as it was then", p.all().equals(then));
        Play r = begin("39 back: whose a span is");
        r.x.keep(15, 5, 9, 7);
        r.x.image();
        r.x.free(0);
        r.x.keep(15, 5, 9, 6);
        r.x.back();
        r.dueAll("earliest", new long[] {r.earliest("16x9", 6), r.earliest("16x9", 7)}, 9, 0);
        Play q = begin("39 back: at first");
        q.job(0, "1x1");
        q.x.step(5);
        q.due("back", q.x.back(), 0);
        q.holds("all is as it was at first", q.all().equals(first));
    }

    private static void imagesOfFullRings() {
        Play p = begin("39 back: all 60 EVENTS and all 64 TICKS of the CHART were gone");
        for (int i = 0; i < 70; i++) {
            p.job(0, "8x1,8x1");
        }
        p.x.step(70);
        p.x.image();
        String then = p.all();
        for (int i = 70; i < 80; i++) {
            // the one that runs is of another ACCOUNT, or LIMIT would pass over all of them
            p.job(i == 71 ? 1 : 2, "16x200");
        }
        for (int i = 0; i < 65; i++) {
            // each PASS gives another one the PROMISE
            p.x.rank(71 + i % 9, 9);
            p.x.step(1);
            p.x.rank(71 + i % 9, 5);
        }
        p.dueAll("event(0): the PROMISES of five ticks are gone, too", new long[] {p.x.event(0, 0), p.x.event(0, 1)},
            75, 5);
        p.due("chart(0, 64)", p.x.chart(0, 64), 71);
        p.due("back", p.x.back(), 70);
        p.holds("all is as it was then", p.all().equals(then));
    }

    private static void laterImages() {
        Play p = begin("38 image: the later one counts; what is refused changes none");
        p.job(0, "1x9");
        p.x.image();
        p.x.step(3);
        p.due("image", p.x.image(), 3);
        p.x.step(0);
        p.x.step(4);
        p.due("back", p.x.back(), 3);
        p.due("of(0, 6)", p.x.of(0, 6), 0);
        p.x.off(0);
        p.due("back", p.x.back(), 3);
        p.due("of(0, 0)", p.x.of(0, 0), 1);
        p.due("holder(0)", p.x.holder(0), 0);
        p.x.step(6);
        p.due("of(0, 7)", p.x.of(0, 7), 9);
        p.due("numbers of JOBS begin anew behind it", p.job(0, "1x1"), 1);
        p.x.back();
        p.due("job", p.job(0, "2x2"), 1);
        p.holds("its text", p.text(1).equals("1:a0 r5 2x2"));
    }

    private static void allRows() {
        Play p = begin("16 ARMS that run, 12 spans, 4 PROMISES of 4 ARMS");
        p.x.rule(0, 4);
        p.x.every(1515, 100, 1, 2, 6, -1);
        p.x.every(1515, 112, 1, 2, 6, -1);
        for (int i = 0; i < 4; i++) {
            p.job(i, "1x9,1x9,1x9,1x9");
        }
        p.due("pass", p.x.pass(), 4);
        for (int i = 4; i < 8; i++) {
            p.job(i, "1x20,1x20,1x20,1x20");
        }
        p.due("pass", p.x.pass(), 0);
        p.due("count(6)", p.x.count(6), 4);
        for (int i = 0; i < 4; i++) {
            p.due("promised(" + 4 * i + ", 9)", p.x.promised(4 * i, 9), 4 + i);
            p.due("promised(" + (4 * i + 3) + ", 28)", p.x.promised(4 * i + 3, 28), 4 + i);
        }
        p.dueAll("each COLUMN", new long[] {p.earliest("1x20", 0), p.earliest("16x20", 0), p.x.gap(15, 0, 0),
            p.x.gap(15, 1, 0), p.x.gap(15, 12, 0), p.x.gap(15, 13, 0), p.x.holes(9, 20, 0), p.x.holes(8, 1, 0),
            p.x.holes(29, 1, 0)}, 29, 29, 29, 101, 123, NOT, 0, 0, 16);
        for (int i = 4; i < 8; i++) {
            p.due("foretell(" + i + ")", p.x.foretell(i), 9);
            p.due("moves(" + i + ")", p.x.moves(i), NOT);
            p.due("shrunk(" + i + ")", p.x.shrunk(i), NOT);
        }
        p.job(0, "15x9");
        p.due("of(8, 9): DEPTH is used up", p.x.of(8, 9), NOT);
        p.due("foretell(8)", p.x.foretell(8), 29);
    }

    public static void main(String[] args) {
        refusedOfJobs();
        refusedOfOthers();
        inThought();
        foretold();
        plans();
        byRules();
        shrunk();
        movesOfOne();
        movesAsLongAsKnown();
        together();
        promisesOfOthers();
        movesOfLaterArms();
        spansUnderWay();
        gaps();
        orders();
        costs();
        earliest();
        holes();
        led();
        charts();
        events();
        eventsOfPromises();
        started();
        images();
        imagesOfFullRings();
        laterImages();
        allRows();
        CHECKS.end();
    }
}
