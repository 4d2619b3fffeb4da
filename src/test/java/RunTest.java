/** Promises 22 to 42: what happens tick by tick. The ticks are worked out by hand. */
public final class RunTest {
    private static final Check CHECK = new Check();

    public static void main(String[] args) {
        aTaskAlone();
        priorities();
        skipped();
        early();
        stoppedAndLate();
        hungHoldsOthers();
        wrongAnswer();
        alive();
        wellCycles();
        health();
        slowAndFirstTold();
        levelOneAndTwo();
        sleepers();
        sleepsStillToCome();
        dog();
        haltStays();
        sleepsBehindHalt();
        edges();
        CHECK.end("RunTest");
    }

    private static void due(String call, long got, long want) {
        CHECK.due(call, got, want);
    }

    private static String board(int h, int y, int n) {
        return "board ticks " + h + " cycle " + y + " low " + n + ";watcher root;";
    }

    private static String task(int w, int p, int a, int b, int l, int m) {
        return "task under " + w + " period " + p + " open " + a + " close " + b + " least " + l + " most " + m + ";";
    }

    private static void records(WatchStack x, int[][] want) {
        for (int k = 0; k < want.length; k++) {
            for (int what = 0; what < 4; what++) due("record " + k + " " + what, x.record(k, what), want[k][what]);
        }
        due("record behind the last", x.record(want.length, 0), -1);
        due("faults", x.faults(x.count(0)), want.length);
    }

    private static int bits(float number) {
        return Float.floatToIntBits(number);
    }

    private static void aTaskAlone() {
        WatchStack x = Check.on(board(40, 20, 0) + task(0, 10, 5, 15, 0, 9) + "node 2;node 3 after 0;");
        int[] had = {0, 0, 0, 0, 0, -1, -1, -1, -1, -1};
        for (int tick = 0; tick < 40; tick++) {
            due("had " + tick, x.had(tick), had[tick % 10]);
            due("idle " + tick, x.idle(tick), tick / 10 * 5 + Math.max(0, tick % 10 - 5));
            due("at " + tick, x.at(0, tick), tick % 10 == 0 || tick % 10 > 4 ? -1 : tick % 10 < 2 ? 0 : 1);
            due("jobs " + tick, x.jobs(0, tick), (tick + 9) / 10);
            due("kicks " + tick, x.kicks(0, tick), (tick + 5) / 10);
            due("kicked " + tick, x.kicked(0, tick), tick < 5 ? -1 : (tick - 5) / 10 * 10 + 4);
            due("start " + tick, x.start(0, tick), 0);
            due("memory " + tick, x.memory(0, tick), 0);
            due("margin " + tick, x.margin(0, tick), tick < 15 ? -1 : bits(0.5f));
            due("mean " + tick, x.mean(0, tick), tick < 15 ? -1 : Double.doubleToLongBits(0.5));
        }
        due("idle 40", x.idle(40), 20);
        // 1, 20, 267 - 256 = 11, 150 - 128 = 22, 293 - 256 = 37
        int[] questions = {1, 20, 11, 22, 37};
        for (int i = 0; i < 4; i++) {
            due("question", x.question(0, 10 * i + 4), questions[i]);
            due("question", x.question(0, 10 * i + 5), questions[i + 1]);
        }
        due("gap 0", x.gap(0, 0), 5);
        due("gap 1", x.gap(0, 1), 10);
        due("gap 3", x.gap(0, 3), 10);
        due("gap 4", x.gap(0, 4), -1);
        due("gap far", x.gap(0, Integer.MAX_VALUE), -1);
        records(x, new int[][] {});
        due("halts", x.halts(), -1);
    }

    private static void priorities() {
        WatchStack x = Check.on(board(40, 20, 0) + task(0, 8, 0, 20, 0, 9) + "node 3;" + task(0, 12, 0, 40, 0, 9)
                + "node 4;" + task(0, 40, 0, 100, 0, 9) + "node 9;");
        int[] had = {0, 0, 0, 1, 1, 1, 1, 2, 0, 0, 0, 2, 1, 1, 1, 1, 0, 0, 0, 2, 2, 2, 2, 2, 0, 0, 0, 1, 1, 1, 1, 2,
            0, 0, 0, 2, 1, 1, 1, 1};
        for (int tick = 0; tick < 40; tick++) due("had " + tick, x.had(tick), had[tick]);
        due("at 2, 35", x.at(2, 35), 0);
        due("at 2, 36", x.at(2, 36), -1);
        due("kicked 2", x.kicked(2, 36), 35);
        due("gap 2 0", x.gap(2, 0), 36);
        due("jobs 2", x.jobs(2, 40), 1);
        due("gap 1 1", x.gap(1, 1), 9);
        due("gap 1 2", x.gap(1, 2), 15);
        due("gap 1 3", x.gap(1, 3), 9);
        due("margin 1", x.margin(1, 40), bits(25 / 40f));
        due("mean 1", x.mean(1, 40), Double.doubleToLongBits(((31 / 40f + (double) (25 / 40f)) + (31 / 40f)) / 3));
        records(x, new int[][] {});
    }

    private static void skipped() {
        String text = board(40, 20, 0) + task(0, 10, 0, 20, 0, 9) + "node 2;node 3 after 0;";
        WatchStack x = Check.on(text + "skip 0 job 1 node 0 times 1;");
        records(x, new int[][] {{11, 3, 0, 0}});
        due("start 11", x.start(0, 11), 0);
        due("start 12", x.start(0, 12), 20);
        due("question 11", x.question(0, 11), 20);
        due("question 12", x.question(0, 12), 1);
        due("jobs", x.jobs(0, 40), 4);
        due("kicks", x.kicks(0, 40), 3);
        due("gap 1", x.gap(0, 1), 5);
        due("gap 2", x.gap(0, 2), 10);
        due("memory 11", x.memory(0, 11), 0);
        due("memory 12", x.memory(0, 12), 1);
        due("margin of the one that is not first", x.margin(0, 40), bits(0.5f));
        due("margin ahead of it", x.margin(0, 34), -1);
        // behind the last node a skip changes nothing
        records(Check.on(text + "skip 0 job 1 node 1 times 9;"), new int[][] {});
        // flow ahead of answer
        records(Check.on(text + "wrong 0 job 1 times 1;skip 0 job 1 node 0 times 1;"), new int[][] {{11, 3, 0, 0}});
    }

    private static void early() {
        String text = board(30, 30, 0) + task(0, 10, 9, 13, 0, 9) + "node 2;";
        WatchStack x = Check.on(text + "slow 0 job 1 node 0 times 1;");
        due("gap 1", x.gap(0, 1), 12);
        records(x, new int[][] {{21, 1, 0, 0}});
        due("start", x.start(0, 30), 30);
        due("gap 2", x.gap(0, 2), -1);
        // answer ahead of early
        records(Check.on(text + "slow 0 job 1 node 0 times 1;wrong 0 job 2 times 1;"), new int[][] {{21, 4, 0, 0}});
        // a gap of A is not early; the first kick since start never is
        records(Check.on(board(30, 30, 0) + task(0, 10, 8, 13, 0, 9) + "node 2;slow 0 job 1 node 0 times 1;"),
                new int[][] {});
        records(Check.on(board(30, 30, 0) + task(0, 20, 20, 21, 0, 9) + "node 1;"), new int[][] {});
    }

    private static void stoppedAndLate() {
        WatchStack x = Check.on(board(40, 40, 0) + task(0, 10, 9, 13, 0, 9) + "node 2;stop 0 job 1 node 0 times 1;");
        records(x, new int[][] {{14, 2, 0, 0}});
        due("had 10", x.had(10), -1);
        due("at 11", x.at(0, 11), 0);
        due("at 14", x.at(0, 14), 0);
        due("at 15", x.at(0, 15), -1);
        due("start 15", x.start(0, 15), 20);
        due("kicked", x.kicked(0, 40), 31);
        due("jobs", x.jobs(0, 40), 4);
        // a kick at the very tick at which it would be late is not
        records(Check.on(board(40, 40, 0) + task(0, 10, 0, 10, 0, 9) + "node 2;"), new int[][] {});
        // from the start on: B ticks, the first one among them
        WatchStack first = Check.on(board(40, 40, 0) + task(0, 10, 0, 3, 0, 9) + "node 4;");
        due("late at 2", first.record(0, 0), 2);
        due("kind", first.record(0, 1), 2);
        // with B 1 it is late at its start, if its kick does not come at it
        records(Check.on(board(20, 20, 0) + task(0, 20, 0, 1, 0, 9) + "node 2;"), new int[][] {{0, 2, 0, 0}});
        // a hang at a restart's tick: the next job has the next number
        WatchStack one = Check.on(board(20, 20, 0) + task(0, 4, 0, 1, 0, 9) + "node 1;");
        records(one, new int[][] {{1, 2, 0, 0}, {5, 2, 0, 1}, {9, 2, 0, 2}, {13, 2, 0, 3}, {17, 2, 0, 3}});
        due("each kick is a first one", one.margin(0, 20), -1);
        due("gap 4", one.gap(0, 4), 1);
    }

    private static void hungHoldsOthers() {
        WatchStack x = Check.on(board(60, 30, 0) + task(0, 10, 0, 12, 0, 9) + "node 2;" + task(0, 20, 0, 30, 0, 9)
                + "node 3;hang 0 job 1 node 0 times 1;");
        records(x, new int[][] {{13, 2, 0, 0}});
        for (int tick = 10; tick <= 13; tick++) due("had " + tick, x.had(tick), 0);
        due("had 14", x.had(14), -1);
        due("had 22", x.had(22), 1);
        due("start 1", x.start(1, 60), 0);
        // of LATE first task 0, then task 1, if nothing restarted it
        WatchStack both = Check.on(board(60, 30, 0) + task(0, 10, 0, 12, 0, 9) + "node 2;" + task(0, 10, 0, 10, 0, 9)
                + "node 2;hang 0 job 1 node 0 times 1;");
        records(both, new int[][] {{13, 2, 0, 0}, {13, 2, 1, 0}});
        WatchStack level1 = Check.on(board(60, 30, 9) + task(0, 10, 0, 12, 0, 9) + "node 2;" + task(0, 10, 0, 10, 0, 9)
                + "node 2;hang 0 job 1 node 0 times 1;");
        records(level1, new int[][] {{13, 2, 0, 1}});
        due("start of the other", level1.start(1, 14), 20);
        due("memory of the other", level1.memory(1, 60), 0);
    }

    private static void wrongAnswer() {
        WatchStack x = Check.on(board(40, 40, 0) + task(0, 10, 0, 30, 0, 9) + "node 2;wrong 0 job 1 times 2;");
        records(x, new int[][] {{11, 4, 0, 0}, {21, 4, 0, 1}});
        due("kicks", x.kicks(0, 40), 2);
        due("kinds 4", x.kinds(4), 2);
        due("levels 0 11", x.levels(0, 11), 0);
        due("levels 0 12", x.levels(0, 12), 1);
        due("levels 1 40", x.levels(1, 40), 1);
        due("faults 11", x.faults(11), 0);
        due("faults 12", x.faults(12), 1);
    }

    private static void alive() {
        WatchStack x = Check.on(board(80, 10, 0) + task(0, 10, 0, 30, 2, 3) + "node 2;");
        records(x, new int[][] {{9, 5, 0, 0}, {19, 5, 0, 1}, {29, 5, 0, 2}, {39, 5, 0, 3}, {49, 5, 0, 3}, {59, 5, 0, 3}});
        due("halts", x.halts(), 59);
        due("start", x.start(0, 80), 60);
        due("jobs", x.jobs(0, 80), 6);
        // not asked of a task whose start is behind the cycle's first tick
        WatchStack behind = Check.on(board(40, 10, 0) + task(0, 15, 0, 30, 1, 3) + "node 2;wrong 0 job 0 times 1;");
        records(behind, new int[][] {{1, 4, 0, 0}, {29, 5, 0, 1}});
        // more than M
        WatchStack many = Check.on(board(20, 20, 0) + task(0, 4, 0, 30, 0, 4) + "node 1;");
        records(many, new int[][] {{19, 5, 0, 0}});
        // just M, just L
        records(Check.on(board(20, 20, 0) + task(0, 4, 0, 30, 5, 5) + "node 1;"), new int[][] {});
        records(Check.on(board(20, 20, 0) + task(0, 4, 0, 30, 6, 6) + "node 1;"), new int[][] {{19, 5, 0, 0}});
        // only under its own watcher, and no end of a cycle ahead of H: none
        records(Check.on(board(20, 21, 0) + task(0, 4, 0, 30, 20, 40) + "node 1;"), new int[][] {});
    }

    private static void wellCycles() {
        WatchStack x = Check.on(board(100, 10, 0) + task(0, 10, 0, 30, 0, 3) + "node 2;wrong 0 job 0 times 1;"
                + "wrong 0 job 3 times 1;");
        // faults in the cycles 0 and 3; well 4, 5, 6: 1 less; 7, 8, 9: 1 less
        int[] memory = {0, 1, 1, 1, 1, 2, 2, 2, 1, 1, 1};
        records(x, new int[][] {{1, 4, 0, 0}, {31, 4, 0, 1}});
        for (int tick = 0; tick < 100; tick++) {
            int want = tick < 2 ? 0 : tick < 32 ? 1 : tick < 70 ? 2 : 1;
            due("memory " + tick, x.memory(0, tick), want);
        }
        due("memory 100", x.memory(0, 100), 0);
        due("the row", memory.length, 11);
        // other tasks' faults, and what restarts it, leave its well cycles
        WatchStack two = Check.on(board(60, 10, 9) + task(0, 10, 0, 30, 0, 3) + "node 2;" + task(0, 10, 0, 30, 0, 3)
                + "node 2;wrong 0 job 0 times 1;wrong 1 job 1 times 1;");
        due("level 1 restarts both", two.record(1, 3), 1);
        due("memory 39", two.memory(0, 39), 1);
        due("memory 40", two.memory(0, 40), 0);
    }

    private static void health() {
        WatchStack x = Check.on(board(40, 40, 3) + task(0, 10, 0, 30, 0, 9) + "node 2;wrong 0 job 0 times 2;");
        due("health 0", x.health(0, 0), bits(1f));
        due("health 2", x.health(0, 2), bits(0.5f));
        due("tenths 2", x.tenths(0, 2), 5);
        due("health 12", x.health(0, 12), bits(0.25f));
        due("tenths 12", x.tenths(0, 12), 2);
        due("health 22", x.health(0, 22), bits(0.4375f));
        due("tenths 22", x.tenths(0, 22), 4);
        due("health 32", x.health(0, 32), bits(0.578125f));
        // COUNT 2 and below 0.3: level 2
        records(x, new int[][] {{1, 4, 0, 0}, {11, 4, 0, 2}});
        // 0.5 is not below 0.5
        due("level at 5", Check.on(board(40, 40, 5) + task(0, 10, 0, 30, 0, 9) + "node 2;wrong 0 job 0 times 1;")
                .record(0, 3), 0);
        due("level at 6", Check.on(board(40, 40, 6) + task(0, 10, 0, 30, 0, 9) + "node 2;wrong 0 job 0 times 1;")
                .record(0, 3), 1);
        WatchStack long1 = Check.on(board(200, 50, 0) + task(0, 4, 0, 30, 0, 20) + "node 1;wrong 0 job 1 times 3;"
                + "wrong 0 job 20 times 1;");
        float health = 1f;
        for (int tick = 0; tick < 200; tick++) {
            due("health " + tick, long1.health(0, tick), bits(health));
            if (tick % 4 == 0) {
                int job = tick / 4;
                health = job >= 1 && job <= 3 || job == 20 ? health / 2 : health + (1 - health) * 0.25f;
            }
        }
    }

    private static void slowAndFirstTold() {
        String text = board(40, 40, 0) + task(0, 20, 0, 40, 0, 9) + "node 2;node 3 after 0;";
        WatchStack slow = Check.on(text + "slow 0 job 0 node 1 times 1;");
        due("kicked", slow.kicked(0, 20), 7);
        due("gap", slow.gap(0, 1), 17);
        // of several at one node the first told counts
        due("slow, then hang", Check.on(text + "slow 0 job 0 node 1 times 1;hang 0 job 0 node 1 times 1;").kicked(0, 20), 7);
        due("hang, then slow", Check.on(text + "hang 0 job 0 node 1 times 1;slow 0 job 0 node 1 times 1;").kicked(0, 20), -1);
        due("slow twice", Check.on(text + "slow 0 job 0 node 0 times 1;slow 0 job 0 node 1 times 1;").kicked(0, 20), 9);
        // jobs J .. J and M less 1
        WatchStack range = Check.on(board(60, 50, 0) + task(0, 10, 0, 40, 0, 9) + "node 2;slow 0 job 1 node 0 times 2;");
        int[] kicks = {1, 13, 23, 31, 41, 51};
        for (int i = 0; i < 6; i++) due("kicked " + i, range.kicked(0, 10 * i + 5), kicks[i]);
        // a stop at a later node: the job waits there, others go on
        WatchStack stop = Check.on(board(40, 40, 0) + task(0, 20, 0, 40, 0, 9) + "node 2;node 3 after 0;"
                + task(0, 20, 0, 40, 0, 9) + "node 4;stop 0 job 0 node 1 times 1;");
        due("at", stop.at(0, 3), 1);
        due("had 1", stop.had(1), 0);
        due("had 2", stop.had(2), 1);
        due("had 5", stop.had(5), 1);
        due("had 6", stop.had(6), -1);
    }

    private static void levelOneAndTwo() {
        String text = "board ticks 60 cycle 50 low 0;watcher root;watcher under 0;watcher under 0;"
                + task(1, 10, 0, 60, 0, 9) + "node 1;" + task(1, 10, 0, 60, 0, 9) + "node 1;" + task(2, 10, 0, 60, 0, 9)
                + "node 1;" + task(0, 10, 0, 60, 0, 9) + "node 1;";
        WatchStack x = Check.on(text + "wrong 0 job 0 times 4;");
        records(x, new int[][] {{0, 4, 0, 0}, {10, 4, 0, 1}, {20, 4, 0, 2}, {30, 4, 0, 3}});
        int[][] starts = {{10, 0, 0, 0}, {20, 20, 0, 0}, {30, 30, 0, 0}, {40, 40, 40, 40}};
        for (int i = 0; i < 4; i++) {
            for (int t = 0; t < 4; t++) due("start " + t, x.start(t, 10 * i + 1), starts[i][t]);
        }
        due("the tick ended", x.had(30), 0);
        due("had 31", x.had(31), -1);
        due("halts", x.halts(), -1);
        // of watcher 0 all that are below it
        WatchStack root = Check.on(text + "wrong 3 job 0 times 3;");
        due("level 2", root.record(2, 3), 2);
        for (int t = 0; t < 4; t++) due("start " + t, root.start(t, 25), 30);
        // a watcher below a watcher
        WatchStack deep = Check.on(text.replace("watcher under 0;watcher under 0;", "watcher under 0;watcher under 1;")
                + "wrong 0 job 0 times 3;");
        due("start 2", deep.start(2, 25), 30);
        due("start 3", deep.start(3, 25), 0);
    }

    private static void sleepers() {
        String text = "board ticks 60 cycle 10 low 0;watcher root;watcher under 0;watcher under 1;"
                + task(2, 10, 0, 60, 0, 9) + "node 1;" + task(1, 10, 0, 60, 0, 9) + "node 1;" + task(0, 10, 0, 60, 0, 9)
                + "node 1;";
        WatchStack x = Check.on(text + "sleep 2 tick 5;sleep 2 tick 35;sleep 2 tick 49;");
        records(x, new int[][] {{9, 6, 2, 2}, {39, 6, 2, 3}, {49, 6, 2, 3}});
        for (int tick = 0; tick <= 60; tick++) {
            boolean asleep = tick >= 5 && tick <= 9 || tick >= 35 && tick <= 39 || tick == 49;
            due("sleeps " + tick, x.sleeps(2, tick), asleep ? 1 : 0);
            due("sleeps of another", x.sleeps(1, tick), 0);
        }
        due("start 0", x.start(0, 10), 10);
        due("start 1", x.start(1, 10), 0);
        due("start 1 behind the board's", x.start(1, 40), 40);
        due("ledger 1", x.ledger(1), 3);
        due("ledger 0", x.ledger(0), 0);
        due("levels 3", x.levels(3, 60), 2);
        due("levels 3 at its own tick", x.levels(3, 49), 1);
        WatchStack all = Check.on(text + "sleep 2 tick 5;sleep 0 tick 25;skip 0 job 0 node 0 times 1;wrong 1 job 3 times 1;");
        records(all, new int[][] {{9, 6, 2, 2}, {29, 7, 0, 3}, {31, 4, 1, 0}});
        due("ledger 1", all.ledger(1), 2);
        due("ledger 0", all.ledger(0), 1);
        int[] kinds = {0, 0, 0, 1, 0, 1, 1};
        for (int kind = 1; kind <= 7; kind++) due("kinds " + kind, all.kinds(kind), kinds[kind - 1]);
        // the reset of a watcher wakes none that is not below it
        WatchStack apart = Check.on(text.replace("under 1;task", "under 0;task") + "sleep 1 tick 11;sleep 2 tick 11;"
                + "wrong 0 job 0 times 3;wrong 1 job 0 times 1;");
        records(apart, new int[][] {{0, 4, 0, 0}, {1, 4, 1, 0}, {10, 4, 0, 1}, {19, 6, 1, 2}, {19, 6, 2, 2}, {20, 4, 0, 2}});
        due("1 is awake", apart.sleeps(1, 20), 0);
        // watcher 1 sleeps: 2 is not asked of, 1 is, and its reset wakes 2 as well
        WatchStack both = Check.on(text + "sleep 2 tick 5;sleep 1 tick 5;");
        records(both, new int[][] {{9, 6, 1, 2}});
        due("2 is woken", both.sleeps(2, 10), 0);
        // a watcher that sleeps asks no task of its own
        WatchStack quiet = Check.on("board ticks 20 cycle 10 low 0;watcher root;watcher under 0;" + task(1, 10, 0, 60, 2, 9)
                + "node 1;sleep 1 tick 0;");
        records(quiet, new int[][] {{9, 6, 1, 2}, {19, 5, 0, 0}});
        // a task's reset at the same tick wakes a watcher ahead of its look
        WatchStack woken = Check.on("board ticks 40 cycle 10 low 0;watcher root;watcher under 0;" + task(1, 10, 0, 60, 0, 9)
                + "node 9;node 1 after 0;sleep 1 tick 29;wrong 0 job 0 times 3;");
        records(woken, new int[][] {{9, 4, 0, 0}, {19, 4, 0, 1}, {29, 4, 0, 2}});
        due("awake", woken.sleeps(1, 30), 0);
    }

    private static void sleepsStillToCome() {
        String text = "board ticks 60 cycle 10 low 0;watcher root;watcher under 0;" + task(1, 10, 0, 60, 0, 9) + "node 1;";
        WatchStack x = Check.on(text + "sleep 1 tick 9;sleep 1 tick 10;sleep 1 tick 2;");
        records(x, new int[][] {{9, 6, 1, 2}, {19, 6, 1, 3}});
        due("sleeps 10", x.sleeps(1, 10), 1);
        due("sleeps 20", x.sleeps(1, 20), 0);
        WatchStack last = Check.on(text + "sleep 0 tick 60;sleep 1 tick 61;");
        due("sleeps 59", last.sleeps(0, 59), 0);
        due("sleeps 60", last.sleeps(0, 60), 1);
        due("sleeps 61", last.sleeps(1, 60), 0);
        records(last, new int[][] {});
    }

    private static void dog() {
        String text = "board ticks 100 cycle 10 low 0;watcher root;" + task(0, 10, 0, 60, 0, 9) + "node 1;";
        WatchStack x = Check.on(text + "sleep 0 tick 3;sleep 0 tick 20;sleep 0 tick 59;");
        records(x, new int[][] {{9, 7, 0, 3}, {29, 7, 0, 3}, {59, 7, 0, 3}});
        due("halts", x.halts(), 59);
        due("kinds 7", x.kinds(7), 3);
        due("memory stays", x.memory(0, 100), 0);
        due("had 60", x.had(60), -1);
        // a board that was reset ends the cycle without well ones
        WatchStack well = Check.on("board ticks 100 cycle 10 low 0;watcher root;" + task(0, 10, 0, 60, 0, 9)
                + "node 1;wrong 0 job 0 times 1;sleep 0 tick 23;");
        due("memory 40", well.memory(0, 40), 1);
        due("memory 49", well.memory(0, 49), 1);
        due("memory 50", well.memory(0, 50), 0);
    }

    private static void haltStays() {
        WatchStack x = Check.on("board ticks 100 cycle 50 low 9;watcher root;" + task(0, 4, 0, 10, 0, 40)
                + "node 1;" + task(0, 50, 0, 100, 0, 40) + "node 2;wrong 0 job 0 times 9;sleep 0 tick 30;");
        due("halts", x.halts(), 16);
        due("had 16", x.had(16), 0);
        for (int tick = 17; tick < 100; tick++) {
            due("had " + tick, x.had(tick), -1);
            due("question " + tick, x.question(0, tick), 1);
            due("start " + tick, x.start(0, tick), 20);
            due("start 1 " + tick, x.start(1, tick), 50);
            due("memory " + tick, x.memory(0, tick), 5);
            due("health " + tick, x.health(0, tick), bits(1 / 32f));
            due("tenths " + tick, x.tenths(0, tick), 0);
            due("jobs 1 " + tick, x.jobs(1, tick), 1);
            due("at 1 " + tick, x.at(1, tick), -1);
            // judged by its X against the tick alone: the halt does not keep it off
            due("sleeps " + tick, x.sleeps(0, tick), tick < 30 ? 0 : 1);
        }
        due("idle", x.idle(100), 95);
        due("kicks 1", x.kicks(1, 100), 0);
        due("sleeps 100", x.sleeps(0, 100), 1);
        due("no record of the sleep", x.faults(100), 5);
        due("caught", x.caught(1), -1);
    }

    /** The halt wakes all, so of the sleeps told only those with an X behind it count. */
    private static void sleepsBehindHalt() {
        String text = "board ticks 60 cycle 10 low 9;watcher root;watcher under 0;watcher under 1;"
                + task(0, 4, 0, 10, 0, 40) + "node 1;wrong 0 job 0 times 9;sleep 0 tick 15;sleep 0 tick 16;sleep 1 tick 17;";
        WatchStack x = Check.on(text);
        due("halts", x.halts(), 16);
        for (int tick = 0; tick <= 60; tick++) {
            due("sleeps 0 " + tick, x.sleeps(0, tick), tick == 15 || tick == 16 ? 1 : 0);
            due("sleeps 1 " + tick, x.sleeps(1, tick), tick >= 17 ? 1 : 0);
            due("sleeps 2 " + tick, x.sleeps(2, tick), 0);
        }
        due("an act", x.inject(5, 2, 60, 0, 0), x.faults(60));
        due("another", x.inject(5, 0, 40, 0, 0), x.faults(60));
        due("a tick ahead of X", x.sleeps(0, 39), 0);
        due("at X", x.sleeps(0, 40), 1);
        due("ahead of H", x.sleeps(2, 59), 0);
        due("at H", x.sleeps(2, 60), 1);
        due("asked back", x.sleeps(1, 16), 0);
        due("taken back", x.undo(), 1);
        due("as it was", x.sleeps(0, 40), 0);
    }

    private static void edges() {
        WatchStack x = Check.on(board(20, 20, 0) + task(0, 10, 0, 20, 0, 9) + "node 2;");
        int[] bad = {-1, 21, Integer.MIN_VALUE, Integer.MAX_VALUE};
        for (int tick : bad) {
            due("idle", x.idle(tick), -2);
            due("kicks", x.kicks(0, tick), -2);
            due("kicked", x.kicked(0, tick), -2);
            due("jobs", x.jobs(0, tick), -2);
            due("at", x.at(0, tick), -2);
            due("question", x.question(0, tick), -2);
            due("start", x.start(0, tick), -2);
            due("memory", x.memory(0, tick), -2);
            due("health", x.health(0, tick), -2);
            due("tenths", x.tenths(0, tick), -2);
            due("margin", x.margin(0, tick), -2);
            due("mean", x.mean(0, tick), -2);
            due("faults", x.faults(tick), -2);
            due("levels", x.levels(0, tick), -2);
            due("sleeps", x.sleeps(0, tick), -2);
            due("had", x.had(tick), -2);
        }
        due("had 20", x.had(20), -2);
        int[] none = {-1, 1, 5, Integer.MAX_VALUE};
        for (int task : none) {
            due("kicks", x.kicks(task, 0), -2);
            due("kicked", x.kicked(task, 0), -2);
            due("gap", x.gap(task, 0), -2);
            due("jobs", x.jobs(task, 0), -2);
            due("at", x.at(task, 0), -2);
            due("question", x.question(task, 0), -2);
            due("start", x.start(task, 0), -2);
            due("memory", x.memory(task, 0), -2);
            due("health", x.health(task, 0), -2);
            due("tenths", x.tenths(task, 0), -2);
            due("margin", x.margin(task, 0), -2);
            due("mean", x.mean(task, 0), -2);
            due("sleeps", x.sleeps(task, 0), -2);
        }
        due("gap k -1", x.gap(0, -1), -2);
        due("record -1", x.record(-1, 0), -2);
        due("record what -1", x.record(0, -1), -2);
        due("record what 4", x.record(0, 4), -2);
        due("record 0", x.record(0, 3), -1);
        due("ledger -1", x.ledger(-1), -2);
        due("ledger 2", x.ledger(2), -2);
        due("kinds 0", x.kinds(0), -2);
        due("kinds 8", x.kinds(8), -2);
        due("levels -1", x.levels(-1, 0), -2);
        due("levels 4", x.levels(4, 0), -2);
    }
}
