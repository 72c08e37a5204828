import java.util.function.LongSupplier;

/** An object to play on, its calls of several bytes, and what is to be seen of it. */
final class Play {
    static final int BAD = GangColumns.BAD, NOT = GangColumns.NOT, FULL = GangColumns.FULL, STATE = GangColumns.STATE;
    static final int MOST = Integer.MAX_VALUE, LEAST = Integer.MIN_VALUE;

    // The ways of the JOBS of busy().
    static final int DONE_ONE = 0, CUT_ONE = 1, RUNS = 2, WAITS = 3, WAITS_AFTER = 4, HELD = 5, OFF_ONE = 6;

    final GangColumns x = new GangColumns();
    private final Checks checks;

    Play(Checks checks, String about) {
        this.checks = checks;
        checks.about(about);
    }

    /** A scene at tick 4 with a JOB in each way that it may be, so that a change would be seen. */
    static Play busy(Checks checks, String about) {
        Play p = new Play(checks, about);
        GangColumns x = p.x;
        p.job("2x3", 0, 5, 50, -1);
        p.job("2x3", 1, 5, 150, -1);
        p.job("3x40,2x9", 2, 5, 100, -1);
        p.job(3, "16x4");
        p.job("1x5", 4, 5, 100, RUNS);
        p.job(5, "1x5");
        x.hold(HELD, 1);
        p.job(6, "1x7");
        x.off(OFF_ONE);
        x.keep(1415, 60, 70, 1);
        x.step(4);
        x.weight(3, 20);
        x.limit(4, 9);
        p.tell("3x");
        return p;
    }

    void due(String call, long got, long want) {
        checks.due(call, got, want);
    }

    void holds(String what, boolean isSo) {
        checks.holds(what, isSo);
    }

    /** A call that is refused: it answers so, and nothing at all is another than before. */
    void refused(String call, LongSupplier made, long want) {
        String before = all();
        due(call, made.getAsLong(), want);
        holds(call + " changed something", all().equals(before));
    }

    /** A call that answers, and by which nothing but THE TAPE is another than before. */
    void changesNothing(String call, LongSupplier made, long want) {
        String before = all();
        due(call, made.getAsLong(), want);
        due(call + " leaves THE TAPE", x.count(5), 0);
        holds(call + " changed something", allButTape().equals(withoutTape(before)));
    }

    void tell(String text) {
        for (int i = 0; i < text.length(); i++) {
            x.feed(text.charAt(i));
        }
    }

    int job(String text, int account, int rank, int part, int after) {
        tell(text);
        return x.job(account, rank, part, after);
    }

    /** A job of rank 5, part 100, behind none. */
    int job(int account, String text) {
        return job(text, account, 5, 100, -1);
    }

    int costs(String text, int account, int rank, int what) {
        tell(text);
        return x.costs(account, rank, what);
    }

    int earliest(String text, int account) {
        tell(text);
        return x.earliest(account);
    }

    String text(int job) {
        StringBuilder s = new StringBuilder();
        for (int i = 0; i < x.text(job, -1); i++) {
            s.append((char) x.text(job, i));
        }
        return s.toString();
    }

    void dueAll(String call, long[] got, long... want) {
        for (int i = 0; i < Math.max(got.length, want.length); i++) {
            due(call + " [" + i + "]", i < got.length ? got[i] : -99, i < want.length ? want[i] : -98);
        }
    }

    private String withoutTape(String all) {
        return all.substring(all.indexOf('\n'));
    }

    private String allButTape() {
        return withoutTape(all());
    }

    /** All that the calls tell of the object: THE TAPE on the first line. */
    String all() {
        StringBuilder s = new StringBuilder();
        s.append(x.count(5)).append('\n');
        tellNumbers(s);
        for (int j = 0; j < x.count(0); j++) {
            tellJob(s, j);
        }
        tellRows(s);
        tellColumns(s);
        return s.toString();
    }

    private void tellNumbers(StringBuilder s) {
        for (int what = 0; what < 8; what++) {
            s.append(what == 5 ? 0 : x.count(what)).append(' ').append(x.led(what)).append(' ');
        }
        for (int a = 0; a < 8; a++) {
            int weight = x.weight(a, 1);
            int limit = x.limit(a, 1);
            x.weight(a, weight);
            x.limit(a, limit);
            s.append("a ").append(weight).append(' ').append(limit).append(' ');
            s.append(x.used(a)).append(' ').append(x.ranked(a)).append(' ');
        }
        for (int what = 0; what < 3; what++) {
            int v = x.rule(what, 1);
            x.rule(what, v);
            s.append("r ").append(v).append(' ');
        }
    }

    private void tellJob(StringBuilder s, int j) {
        s.append('\n').append(text(j)).append(" of");
        for (int what = 0; what <= 10; what++) {
            s.append(' ').append(x.of(j, what));
        }
        for (int a = 0; a < x.of(j, 5); a++) {
            s.append(" arm");
            for (int what = 0; what < 5; what++) {
                s.append(' ').append(x.arm(j, a, what));
            }
        }
        int back = x.hold(j, 0);
        if (back == 1) {
            x.hold(j, 1);
        }
        s.append(" back ").append(back);
    }

    private void tellRows(StringBuilder s) {
        s.append("\nline");
        for (int i = -1; i <= x.line(-1); i++) {
            s.append(' ').append(x.line(i));
        }
        s.append("\nevents");
        for (int i = 0; i < 61; i++) {
            s.append(' ').append(x.event(i, 0)).append(' ').append(x.event(i, 1)).append(' ').append(x.event(i, 2));
        }
        s.append("\nstarted");
        for (int i = 0; i < 81; i++) {
            s.append(' ').append(x.started(i));
        }
    }

    private void tellColumns(StringBuilder s) {
        int now = x.count(7);
        for (int c = 0; c < 16; c++) {
            s.append("\ncolumn ").append(x.holder(c));
            for (int back = 1; back <= 64; back++) {
                s.append(' ').append(x.chart(c, back));
            }
            s.append(" promised");
            for (int t = now; t < now + 40; t++) {
                s.append(' ').append(x.promised(c, t));
            }
            s.append(" gaps");
            for (int i = 0; i < 14; i++) {
                s.append(' ').append(x.gap(c, i, 0)).append(' ').append(x.gap(c, i, 1));
            }
        }
    }
}
