import static java.lang.Integer.MAX_VALUE;
import static java.lang.Integer.MIN_VALUE;

/** Promises 22 to 42, sentence by sentence: what is so as a tick begins, what was caught till then. */
final class TickSentences {
    private static final int[] NO_TICK = {-1, 41, 200, 201, MIN_VALUE, MAX_VALUE};
    private static final int[] NO_TASK = {-1, 2, 5, MIN_VALUE, MAX_VALUE};

    private final Sentences s;

    TickSentences(Sentences s) {
        this.s = s;
    }

    void run() {
        had();
        idle();
        kicks();
        kicked();
        gap();
        jobs();
        at();
        question();
        start();
        memory();
        health();
        tenths();
        margin();
        mean();
        faults();
        record();
        ledger();
        kinds();
        levels();
        halts();
        sleeps();
    }

    /** A question about a task and a tick. */
    private interface OfTask {
        long ask(WatchStack x, int task, int tick);
    }

    /** Kicks of 0 at 1, (wrong) 11, 21 and 31; of 1 at 4, 14, 24 and 34: wrong is that at 24. */
    private static WatchStack board() {
        return Check.on(Texts.board(40, 20, 6) + Texts.task(0, 10, 0, 15, 0, 40) + "node 2;"
                + Texts.task(0, 10, 0, 25, 0, 40) + "node 1;node 2 after 0;wrong 0 job 1 times 1;wrong 1 job 2 times 1;");
    }

    /** Its answers ahead of each tick, the last one told ahead of all from there on. */
    private void row(String call, OfTask question, int task, long... answers) {
        WatchStack x = board();
        for (int tick = 0; tick <= 40; tick++) {
            s.due(call + " " + task + " " + tick, question.ask(x, task, tick), answers[Math.min(tick, answers.length - 1)]);
        }
        // asked in another order it is the same
        for (int tick = 40; tick >= 0; tick -= 7) {
            s.due(call + " " + task + " " + tick, question.ask(x, task, tick), answers[Math.min(tick, answers.length - 1)]);
        }
    }

    /** -2 for each task and each tick that there is not. */
    private void none(String call, OfTask question) {
        WatchStack x = board();
        for (int tick : NO_TICK) s.due(call + " at tick " + tick, question.ask(x, 0, tick), -2);
        for (int task : NO_TASK) s.due(call + " of task " + task, question.ask(x, task, 0), -2);
        s.due(call + " without a BOARD", question.ask(new WatchStack(), 0, 0), -2);
        s.due(call + " without TASKS", question.ask(Check.on(Texts.board(40, 20, 0)), 0, 0), -2);
    }

    private static long[] steps(long... pairs) {
        long[] row = new long[41];
        for (int i = 0; i < pairs.length; i += 2) {
            for (int tick = (int) pairs[i]; tick <= 40; tick++) row[tick] = pairs[i + 1];
        }
        return row;
    }

    // ------------------------------------------------------------ promises 22 to 35

    private void had() {
        s.says("Promise 22", "The TASK that had a TICK (0 .. H - 1). NONE: none; -2: there is no such TICK, no BOARD.");
        WatchStack x = board();
        // at 11 the wrong KICK of 0 (LEVEL 1) takes the JOB of 1 as well; at 24 that of 1 restarts both
        int[] first = {0, 0, 1, 1, 1, -1, -1, -1, -1, -1, 0, 0, -1, -1, -1, -1, -1, -1, -1, -1, 0, 0, 1, 1, 1, -1};
        for (int tick = 0; tick < first.length; tick++) s.due("had " + tick, x.had(tick), first[tick]);
        s.due("had 39", x.had(39), -1);
        for (int tick : new int[] {-1, 40, 41, 200, MIN_VALUE, MAX_VALUE}) s.due("had " + tick, x.had(tick), -2);
        s.due("without a BOARD", new WatchStack().had(0), -2);
        s.due("without TASKS", Check.on(Texts.board(40, 20, 0)).had(39), -1);
    }

    private void idle() {
        s.says("Promise 23", "How many TICKS ahead of a TICK (0 .. H) none had. -2 likewise.");
        WatchStack x = board();
        int[] idle = {0, 0, 0, 0, 0, 0, 1, 2, 3, 4, 5, 5, 5, 6, 7, 8, 9, 10, 11, 12, 13, 13, 13, 13, 13, 13, 14};
        for (int tick = 0; tick < idle.length; tick++) s.due("idle " + tick, x.idle(tick), idle[tick]);
        s.due("idle 40", x.idle(40), 23);
        for (int tick : NO_TICK) s.due("idle " + tick, x.idle(tick), -2);
        s.due("without a BOARD", new WatchStack().idle(0), -2);
        s.due("without TASKS", Check.on(Texts.board(40, 20, 0)).idle(40), 40);
    }

    private void kicks() {
        s.says("Promise 24", "GOOD KICKS of a TASK ahead of a TICK (0 .. H; so below). -2: there are none such.");
        row("kicks", (x, t, tick) -> x.kicks(t, tick), 0, steps(0, 0, 2, 1, 22, 2, 32, 3));
        row("kicks", (x, t, tick) -> x.kicks(t, tick), 1, steps(0, 0, 5, 1, 35, 2));
        none("kicks", (x, t, tick) -> x.kicks(t, tick));
        // ahead of H: the KICK at the last TICK
        s.due("ahead of 20", Check.on(Texts.board(20, 50, 0) + Texts.wide(20) + "node 9;node 9 after 0;node 2 after 1;").kicks(0, 20), 1);
        s.due("ahead of 19", Check.on(Texts.board(20, 50, 0) + Texts.wide(20) + "node 9;node 9 after 0;node 2 after 1;").kicks(0, 19), 0);
    }

    private void kicked() {
        s.says("Promise 25", "The TICK of the latest GOOD one ahead of a TICK. NONE: there was none; -2 likewise.");
        row("kicked", (x, t, tick) -> x.kicked(t, tick), 0, steps(0, -1, 2, 1, 22, 21, 32, 31));
        row("kicked", (x, t, tick) -> x.kicked(t, tick), 1, steps(0, -1, 5, 4, 35, 34));
        none("kicked", (x, t, tick) -> x.kicked(t, tick));
    }

    private void gap() {
        s.says("Promise 26", "GAP of its k-th GOOD KICK (from 0) of all TICKS. NONE: it has not so many;"
                + " -2: there is no such TASK, k is below 0.");
        WatchStack x = board();
        // 0: 2 at 1, the first behind a restart: 2 at 21, again 2 at 31 (behind that at 24); 1: 5 and 5
        int[] gaps = {2, 2, 2};
        for (int k = 0; k < 3; k++) s.due("gap 0 " + k, x.gap(0, k), gaps[k]);
        s.due("gap 1 0", x.gap(1, 0), 5);
        s.due("gap 1 1", x.gap(1, 1), 5);
        s.due("gap 1 2", x.gap(1, 2), -1);
        for (int k : new int[] {3, 4, 200, MAX_VALUE}) s.due("gap 0 " + k, x.gap(0, k), -1);
        for (int k : new int[] {-1, MIN_VALUE}) s.due("gap 0 " + k, x.gap(0, k), -2);
        for (int t : NO_TASK) s.due("gap of " + t, x.gap(t, 0), -2);
        s.due("without a BOARD", new WatchStack().gap(0, 0), -2);
        // of all TICKS, whatever TICK was asked ahead of it
        s.due("kicks 0", x.kicks(0, 0), 0);
        s.due("gap 0 2", x.gap(0, 2), 2);
        // of what is, behind an act and its taking back
        s.due("skip of 1, job 0", x.inject(2, 1, 0, 0, 1) > 0 ? 1 : 0, 1);
        s.due("gap 1 0", x.gap(1, 0), 5);
        s.due("gap 1 1", x.gap(1, 1), -1);
        s.due("undo", x.undo(), 0);
        s.due("gap 1 0", x.gap(1, 0), 5);
        s.due("gap 1 1", x.gap(1, 1), 5);
        s.due("gap 1 2", x.gap(1, 2), -1);
        s.due("gap 0 3", x.gap(0, 3), -1);
        WatchStack most = Check.on(Texts.board(200, 50, 0) + Texts.wide(4) + "node 1;" + Texts.wide(4) + "node 1;"
                + Texts.wide(4) + "node 1;" + Texts.wide(4) + "node 1;");
        for (int t = 0; t < 4; t++) {
            s.due("gap 0 of " + t, most.gap(t, 0), t + 1);
            s.due("gap 49 of " + t, most.gap(t, 49), 4);
            s.due("gap 50 of " + t, most.gap(t, 50), -1);
        }
    }

    private void jobs() {
        s.says("Promise 27", "How many JOBS it began ahead of a TICK. -2 likewise.");
        row("jobs", (x, t, tick) -> x.jobs(t, tick), 0, steps(0, 0, 1, 1, 11, 2, 21, 3, 31, 4));
        row("jobs", (x, t, tick) -> x.jobs(t, tick), 1, steps(0, 0, 1, 1, 11, 2, 21, 3, 31, 4));
        none("jobs", (x, t, tick) -> x.jobs(t, tick));
    }

    private void at() {
        s.says("Promise 28", "The NODE at which its JOB is, as the TICK begins (ahead of JOBS that begin at it)."
                + " NONE: none is going on; -2 likewise.");
        row("at", (x, t, tick) -> x.at(t, tick), 0, steps(0, -1, 1, 0, 2, -1, 11, 0, 12, -1, 21, 0, 22, -1, 31, 0, 32, -1));
        row("at", (x, t, tick) -> x.at(t, tick), 1, steps(0, -1, 1, 0, 3, 1, 5, -1, 11, 0, 12, -1, 21, 0, 23, 1, 25, -1,
                31, 0, 33, 1, 35, -1));
        none("at", (x, t, tick) -> x.at(t, tick));
    }

    private void question() {
        s.says("Promise 29", "Its QUESTION then. -2 likewise.");
        // behind the LEVEL 1 at 11 and at 24 both have 1 again
        row("question", (x, t, tick) -> x.question(t, tick), 0, steps(0, 1, 2, 20, 12, 1, 22, 20, 25, 1, 32, 20));
        row("question", (x, t, tick) -> x.question(t, tick), 1, steps(0, 1, 5, 20, 12, 1, 35, 20));
        none("question", (x, t, tick) -> x.question(t, tick));
    }

    private void start() {
        s.says("Promise 30", "Its START then. -2 likewise.");
        row("start", (x, t, tick) -> x.start(t, tick), 0, steps(0, 0, 12, 20, 25, 30));
        row("start", (x, t, tick) -> x.start(t, tick), 1, steps(0, 0, 12, 20, 25, 30));
        none("start", (x, t, tick) -> x.start(t, tick));
    }

    private void memory() {
        s.says("Promise 31", "Its COUNT then. -2 likewise.");
        row("memory", (x, t, tick) -> x.memory(t, tick), 0, steps(0, 0, 12, 1));
        row("memory", (x, t, tick) -> x.memory(t, tick), 1, steps(0, 0, 25, 1));
        none("memory", (x, t, tick) -> x.memory(t, tick));
    }

    private void health() {
        s.says("Promise 32", "Its HEALTH then: its bits (floatToIntBits). -2 likewise.");
        row("health", (x, t, tick) -> x.health(t, tick), 0, steps(0, Texts.bits(1f), 12, Texts.bits(0.5f), 22, Texts.bits(0.625f),
                32, Texts.bits(0.71875f)));
        row("health", (x, t, tick) -> x.health(t, tick), 1, steps(0, Texts.bits(1f), 25, Texts.bits(0.5f), 35, Texts.bits(0.625f)));
        none("health", (x, t, tick) -> x.health(t, tick));
    }

    private void tenths() {
        s.says("Promise 33", "HEALTH times 10 (floats), cut to a whole number. -2 likewise.");
        // 0.5, 0.625 and 0.71875
        row("tenths", (x, t, tick) -> x.tenths(t, tick), 0, steps(0, 10, 12, 5, 22, 6, 32, 7));
        row("tenths", (x, t, tick) -> x.tenths(t, tick), 1, steps(0, 10, 25, 5, 35, 6));
        none("tenths", (x, t, tick) -> x.tenths(t, tick));
        WatchStack low = Check.on(Texts.board(60, 50, 0) + Texts.wide(10) + "node 1;wrong 0 job 0 times 5;");
        int[] halves = {10, 5, 2, 1, 0, 0};
        for (int i = 0; i < 6; i++) s.due("tenths " + 10 * i, low.tenths(0, 10 * i), halves[i]);
        // up to 1 again, as floats have it
        WatchStack up = Check.on(Texts.board(200, 50, 0) + Texts.wide(4) + "node 1;wrong 0 job 0 times 1;");
        float health = 0.5f;
        for (int job = 1; job < 50; job++) {
            health = health + (1 - health) * 0.25f;
            s.due("behind job " + job, up.tenths(0, 4 * job + 1), (int) (health * 10f));
        }
    }

    /** GAPS of 2, 13, 8, 10, 10: B 14, A 0. */
    private static final String MARGINS = Texts.board(60, 50, 0) + Texts.task(0, 10, 0, 14, 0, 40)
            + "node 2;slow 0 job 1 node 0 times 1;wrong 0 job 4 times 1;";

    private void margin() {
        s.says("Promise 34", "The least MARGIN of its KICKS ahead of a TICK: its bits (floatToIntBits)."
                + " NONE: there was none; -2 likewise.");
        none("margin", (x, t, tick) -> x.margin(t, tick));
        // each is the first since START, but that of 0 at 31, behind LEVEL 1 of 1 at 24
        row("margin", (x, t, tick) -> x.margin(t, tick), 0, steps(0, -1));
        WatchStack x = Check.on(MARGINS);
        // kicks at 1, 13 (GAP 12), 21 (8), 31 (10), (wrong) 41, 51 (the first)
        int least = Texts.bits(2 / 14f);
        for (int tick = 0; tick <= 60; tick++) s.due("margin " + tick, x.margin(0, tick), tick < 14 ? -1 : least);
        WatchStack falls = Check.on(MARGINS.replace("slow 0 job 1", "slow 0 job 2"));
        // kicks at 1, 11 (10), 23 (12), 31 (8)
        for (int tick = 0; tick <= 60; tick++) {
            s.due("margin " + tick, falls.margin(0, tick), tick < 12 ? -1 : tick < 24 ? Texts.bits(4 / 14f) : least);
        }
        WatchStack zero = Check.on(Texts.board(20, 50, 0) + Texts.task(0, 10, 0, 10, 0, 40) + "node 2;");
        s.due("0 is a MARGIN", zero.margin(0, 12), 0);
        s.due("NONE ahead of it", zero.margin(0, 11), -1);
        s.due("ahead of H", zero.margin(0, 20), 0);
    }

    private void mean() {
        s.says("Promise 35", "The mean of them (each as a double, added in order from 0, by how many they are):"
                + " its bits (doubleToLongBits). NONE, -2 likewise.");
        none("mean", (x, t, tick) -> x.mean(t, tick));
        WatchStack x = Check.on(MARGINS);
        double two = 2 / 14f;
        double six = 6 / 14f;
        double four = 4 / 14f;
        for (int i = 0; i <= 120; i++) {
            // up, and down again
            int tick = Math.min(i, 120 - i);
            long due = tick < 14 ? -1 : Texts.bits(tick < 22 ? two : tick < 32 ? (two + six) / 2 : (two + six + four) / 3);
            s.due("mean " + tick, x.mean(0, tick), due);
        }
        WatchStack zero = Check.on(Texts.board(20, 50, 0) + Texts.task(0, 10, 0, 10, 0, 40) + "node 2;");
        s.due("0 is a mean", zero.mean(0, 12), 0);
        s.due("NONE ahead of it", zero.mean(0, 11), -1);
        WatchStack one = Check.on(Texts.board(40, 50, 0) + Texts.task(0, 10, 10, 11, 0, 40) + "node 2;");
        s.due("1", one.mean(0, 40), Texts.bits(1.0));
    }

    // ------------------------------------------------------------ promises 36 to 42

    /** RECORDS {3, 4, 0, 0}, {9, 5, 1, 0}, {13, 4, 0, 1}, {19, 6, 1, 2}, {29, 7, 0, 3}, {39, 7, 0, 3}, {49, 6, 1, 3}. */
    private static WatchStack caught() {
        return Check.on(Texts.board(60, 10, 0) + "watcher under 0;" + Texts.wide(10) + "node 4;"
                + Texts.task(0, 60, 0, 120, 2, 40) + "node 1;wrong 0 job 0 times 2;sleep 1 tick 19;sleep 0 tick 29;sleep 0 tick 39;"
                + "sleep 1 tick 45;");
    }

    private void faults() {
        s.says("Promise 36", "How many RECORDS there are of TICKS ahead of a TICK (0 .. H). -2: there is no such TICK, no BOARD.");
        WatchStack x = caught();
        int[] ticks = {3, 9, 13, 19, 29, 39, 49};
        for (int tick = 0; tick <= 60; tick++) {
            int due = 0;
            for (int of : ticks) if (of < tick) due++;
            s.due("faults " + tick, x.faults(tick), due);
        }
        for (int tick : new int[] {-1, 61, 200, MIN_VALUE, MAX_VALUE}) s.due("faults " + tick, x.faults(tick), -2);
        s.due("without a BOARD", new WatchStack().faults(0), -2);
        // one at the last TICK is ahead of H
        s.due("ahead of 20", Check.on(Texts.board(20, 10, 0) + "sleep 0 tick 19;").faults(20), 1);
        s.due("ahead of 19", Check.on(Texts.board(20, 10, 0) + "sleep 0 tick 19;").faults(19), 0);
        // two at one TICK
        WatchStack two = Check.on(Texts.board(20, 10, 0) + "watcher under 0;watcher under 0;sleep 1 tick 9;sleep 2 tick 9;");
        s.due("ahead of 9", two.faults(9), 0);
        s.due("ahead of 10", two.faults(10), 2);
    }

    private void record() {
        s.says("Promise 37", "Of RECORD k (from 0, of all TICKS), what 0: its TICK, 1: its kind, 2: who, 3: LEVEL."
                + " NONE: there are not so many; -2: k is below 0, another what, there is no BOARD.");
        WatchStack x = caught();
        int[][] rows = {{3, 4, 0, 0}, {9, 5, 1, 0}, {13, 4, 0, 1}, {19, 6, 1, 2}, {29, 7, 0, 3}, {39, 7, 0, 3}, {49, 6, 1, 3}};
        s.records(x, rows);
        for (int k : new int[] {7, 8, 127, 128, 129, MAX_VALUE}) {
            for (int what = 0; what < 4; what++) s.due("record " + k, x.record(k, what), -1);
            s.due("record " + k + " what 4", x.record(k, 4), -2);
        }
        for (int k : new int[] {-1, MIN_VALUE}) s.due("record " + k, x.record(k, 0), -2);
        for (int what : new int[] {-1, 4, MIN_VALUE, MAX_VALUE}) s.due("what " + what, x.record(0, what), -2);
        s.due("without a BOARD", new WatchStack().record(0, 0), -2);
        s.due("without RECORDS", Check.on(Texts.board(20, 10, 0)).record(0, 0), -1);
        // of all TICKS, whatever TICK was asked ahead of it
        s.due("faults 0", x.faults(0), 0);
        s.due("idle 0", x.idle(0), 0);
        s.due("record 6", x.record(6, 0), 49);
    }

    private void ledger() {
        s.says("Promise 38", "How many RECORDS of all are of TASKS (which 0), of WATCHERS and the DOG (1)."
                + " -2: another which, there is no BOARD.");
        WatchStack x = caught();
        s.due("ledger 0", x.ledger(0), 3);
        s.due("ledger 1", x.ledger(1), 4);
        // one SLEEP and two of the DOG; two SLEEPS and none of it
        WatchStack dog = Check.on(Texts.board(40, 10, 0) + "watcher under 0;sleep 1 tick 9;sleep 0 tick 19;sleep 0 tick 29;");
        s.due("ledger 0", dog.ledger(0), 0);
        s.due("ledger 1", dog.ledger(1), 3);
        WatchStack sleep = Check.on(Texts.board(40, 10, 0) + "watcher under 0;sleep 1 tick 9;sleep 1 tick 19;");
        s.due("ledger 0", sleep.ledger(0), 0);
        s.due("ledger 1", sleep.ledger(1), 2);
        for (int which : new int[] {-1, 2, MIN_VALUE, MAX_VALUE}) s.due("ledger " + which, x.ledger(which), -2);
        s.due("without a BOARD", new WatchStack().ledger(0), -2);
        s.due("without a BOARD", new WatchStack().ledger(1), -2);
        s.due("without RECORDS", Check.on(Texts.board(20, 10, 0)).ledger(0), 0);
        s.due("without RECORDS", Check.on(Texts.board(20, 10, 0)).ledger(1), 0);
    }

    private void kinds() {
        s.says("Promise 39", "How many of a kind (1 .. 7). -2: there is none such, no BOARD.");
        int[] all = {0, 0, 0, 2, 1, 2, 2};
        WatchStack x = caught();
        for (int kind = 1; kind <= 7; kind++) s.due("kinds " + kind, x.kinds(kind), all[kind - 1]);
        for (int kind : new int[] {-1, 0, 8, MIN_VALUE, MAX_VALUE}) s.due("kinds " + kind, x.kinds(kind), -2);
        for (int kind = 1; kind <= 7; kind++) s.due("without a BOARD", new WatchStack().kinds(kind), -2);
        // EARLY at 10 and 30, FLOW at 1 and LATE at 17
        WatchStack y = Check.on(Texts.board(40, 50, 0) + Texts.task(0, 10, 11, 120, 0, 40) + "node 1;"
                + Texts.task(0, 20, 0, 120, 0, 40) + "node 1;node 1 after 0;" + Texts.task(0, 60, 0, 16, 0, 40)
                + "node 1;skip 1 job 0 node 0 times 1;");
        int[] others = {2, 1, 1, 0, 0, 0, 0};
        for (int kind = 1; kind <= 7; kind++) s.due("kinds " + kind, y.kinds(kind), others[kind - 1]);
    }

    private void levels() {
        s.says("Promise 40", "How many of a LEVEL (0 .. 3) of TICKS ahead of a TICK. -2: there are none such, no BOARD.");
        WatchStack x = caught();
        int[][] ticks = {{3, 9}, {13}, {19}, {29, 39, 49}};
        for (int level = 0; level < 4; level++) {
            for (int tick = 0; tick <= 60; tick++) {
                int due = 0;
                for (int of : ticks[level]) if (of < tick) due++;
                s.due("levels " + level + " " + tick, x.levels(level, tick), due);
            }
            for (int tick : new int[] {-1, 61, MIN_VALUE, MAX_VALUE}) s.due("levels at " + tick, x.levels(level, tick), -2);
            s.due("without a BOARD", new WatchStack().levels(level, 0), -2);
        }
        for (int level : new int[] {-1, 4, MIN_VALUE, MAX_VALUE}) s.due("levels " + level, x.levels(level, 0), -2);
    }

    private void halts() {
        s.says("Promise 41", "The TICK at which the board HALTS. NONE: it does not; -2: there is no BOARD.");
        s.due("without a BOARD", new WatchStack().halts(), -2);
        s.due("does not", Check.on(Texts.board(40, 10, 0)).halts(), -1);
        s.due("twice", Check.on(Texts.board(40, 10, 0) + "sleep 0 tick 9;sleep 0 tick 39;").halts(), -1);
        s.due("at the last TICK", Check.on(Texts.board(40, 10, 0) + "sleep 0 tick 9;sleep 0 tick 19;sleep 0 tick 39;").halts(), 39);
        s.due("behind H", Check.on(Texts.board(39, 10, 0) + "sleep 0 tick 9;sleep 0 tick 19;sleep 0 tick 39;").halts(), -1);
        s.due("the third one", caught().halts(), 49);
        // with B 1 and two units: LATE at each START, COUNT 1, 2, 3, 4, 5, 6
        s.due("of TASKS", Check.on(Texts.board(40, 50, 0) + Texts.task(0, 4, 0, 1, 0, 40) + "node 2;").halts(), 20);
        s.due("at 12", Check.on(Texts.board(40, 50, 9) + Texts.task(0, 4, 0, 1, 0, 40) + "node 2;").halts(), 16);
    }

    private void sleeps() {
        s.says("Promise 42", "1 if a WATCHER sleeps as a TICK (0 .. H) begins (by X not behind that TICK), else 0."
                + " -2: there are none such.");
        WatchStack x = Check.on(Texts.board(40, 10, 0) + "watcher under 0;sleep 1 tick 0;sleep 1 tick 19;sleep 1 tick 40;sleep 0 tick 38;");
        for (int tick = 0; tick <= 40; tick++) {
            s.due("sleeps 1 " + tick, x.sleeps(1, tick), tick <= 9 || tick == 19 || tick == 40 ? 1 : 0);
            s.due("sleeps 0 " + tick, x.sleeps(0, tick), tick == 38 || tick == 39 ? 1 : 0);
        }
        WatchStack behind = Check.on(Texts.board(40, 10, 0) + "sleep 0 tick 41;sleep 0 tick 199;");
        for (int tick = 0; tick <= 40; tick++) s.due("X behind H " + tick, behind.sleeps(0, tick), 0);
        for (int tick : NO_TICK) s.due("sleeps at " + tick, x.sleeps(0, tick), -2);
        for (int w : new int[] {-1, 2, 3, MIN_VALUE, MAX_VALUE}) s.due("sleeps of " + w, x.sleeps(w, 0), -2);
        s.due("without a BOARD", new WatchStack().sleeps(0, 0), -2);
        s.due("without WATCHERS", Check.on("board ticks 40 cycle 10 low 0;").sleeps(0, 0), -2);
        // the HALT at 29 wakes all that sleep; one with X behind it counts from X on
        WatchStack halt = Check.on(Texts.board(60, 10, 0) + "watcher under 0;sleep 0 tick 9;sleep 0 tick 19;sleep 0 tick 29;"
                + "sleep 1 tick 25;sleep 1 tick 30;sleep 0 tick 45;");
        for (int tick = 0; tick <= 60; tick++) {
            s.due("0 at " + tick, halt.sleeps(0, tick), tick == 9 || tick == 19 || tick == 29 || tick >= 45 ? 1 : 0);
            s.due("1 at " + tick, halt.sleeps(1, tick), tick >= 25 ? 1 : 0);
        }
    }
}
