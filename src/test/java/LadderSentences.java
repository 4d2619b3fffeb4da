/** Terms IV and MARGIN of V, sentence by sentence: what is caught, and what that restarts. */
final class LadderSentences {
    private static final String FAN = "watcher under 0;watcher under 0;";
    private static final String ROW = "watcher under 0;watcher under 1;";

    private final Sentences s;

    LadderSentences(Sentences s) {
        this.s = s;
    }

    void run() {
        records();
        levelOfTask();
        levelOfWatchers();
        levelZero();
        levelOne();
        levelTwo();
        levelThree();
        restarted();
        health();
        wellCycles();
        outlive();
        margins();
    }

    private static WatchStack on(int h, int y, int n, String rest) {
        return Check.on(Texts.board(h, y, n) + rest);
    }

    private static String under(int w, int p) {
        return Texts.task(w, p, 0, 120, 0, 40);
    }

    private static int[] row(int tick, int kind, int who, int level) {
        return new int[] {tick, kind, who, level};
    }

    private void starts(WatchStack x, int tick, int... starts) {
        for (int t = 0; t < starts.length; t++) s.due("start of " + t + " at " + tick, x.start(t, tick), starts[t]);
    }

    private void records() {
        s.says("Terms", "IV. LADDER. Of each FAULT there is a RECORD (TICK, kind, who, LEVEL).");
        // EARLY at 11 (GAP 10, A 11), FLOW, ANSWER, LATE, ALIVE, of TASKS 0 to 4; then SLEEP and DOG
        String five = "watcher under 0;" + Texts.task(0, 10, 11, 120, 0, 40) + "node 1;"
                + Texts.task(0, 20, 0, 120, 0, 40) + "node 1;node 1 after 0;" + Texts.task(0, 20, 0, 120, 0, 40) + "node 1;"
                + Texts.task(0, 60, 0, 15, 0, 40) + "node 1;" + Texts.task(1, 60, 0, 120, 3, 40) + "node 1;"
                + "skip 1 job 0 node 0 times 1;wrong 2 job 0 times 1;sleep 0 tick 39;sleep 1 tick 30;";
        // 0: 0; 1 FLOW: 1; 2 ANSWER: 2; 3: 3; 4: 4; 0 EARLY: 10; 3 LATE: 3 + 15; 4 ALIVE: 19; at 39 none looks: the DOG
        s.records(on(40, 20, 0, five), row(1, 3, 1, 0), row(2, 4, 2, 0), row(10, 1, 0, 0), row(18, 2, 3, 0), row(19, 5, 4, 0),
                row(30, 1, 0, 1), row(39, 7, 0, 3));
        s.records(on(40, 20, 0, five.replace("sleep 0 tick 39;", "")), row(1, 3, 1, 0), row(2, 4, 2, 0), row(10, 1, 0, 0),
                row(18, 2, 3, 0), row(19, 5, 4, 0), row(30, 1, 0, 1), row(39, 6, 1, 2));
        s.records(on(40, 20, 0, ""));
    }

    private void levelOfTask() {
        s.says("Terms", "Of a TASK (1 .. 5): its COUNT (0 at first) is 1 more, its HEALTH (a float, 1 at first) is half,"
                + " its LEVEL: COUNT less 1, 1 more, if HEALTH is below N / 10 (floats), 3 at most.");
        String wrong = Texts.wide(10) + "node 1;wrong 0 job 0 times 9;";
        WatchStack x = on(51, 50, 0, wrong);
        s.due("COUNT at first", x.memory(0, 0), 0);
        s.due("HEALTH at first", x.health(0, 0), Texts.bits(1f));
        int[] levels = {0, 1, 2, 3, 3, 3};
        float health = 1f;
        for (int job = 0; job < 6; job++) {
            health /= 2;
            s.due("LEVEL " + job, x.record(job, 3), levels[job]);
            s.due("COUNT", x.memory(0, 10 * job + 1), job + 1);
            s.due("HEALTH", x.health(0, 10 * job + 1), Texts.bits(health));
        }
        // each N: below 0.5 from the first one on, below 0.25 from the second one on, and so on
        int[][] byLow = {{0, 1, 2, 3}, {0, 1, 2, 3}, {0, 1, 3, 3}, {0, 2, 3, 3}, {0, 2, 3, 3}, {0, 2, 3, 3}, {1, 2, 3, 3},
            {1, 2, 3, 3}, {1, 2, 3, 3}, {1, 2, 3, 3}};
        for (int n = 0; n < 10; n++) {
            WatchStack low = on(40, 50, n, wrong);
            for (int k = 0; k < 4; k++) s.due("LEVEL " + k + " at N " + n, low.record(k, 3), byLow[n][k]);
        }
        // a GOOD KICK between makes HEALTH 0.625, then 0.3125: below 0.4, not below 0.3
        String between = Texts.wide(10) + "node 1;wrong 0 job 0 times 1;wrong 0 job 2 times 1;";
        s.due("N 3", on(40, 50, 3, between).record(1, 3), 1);
        s.due("N 4", on(40, 50, 4, between).record(1, 3), 2);
        // each kind counts for one COUNT: FLOW, ANSWER, LATE, ALIVE
        WatchStack kinds = on(50, 40, 0, Texts.task(0, 10, 0, 20, 2, 40) + "node 1;node 1 after 0;skip 0 job 0 node 0 times 1;"
                + "wrong 0 job 1 times 1;stop 0 job 2 node 0 times 1;");
        s.records(kinds, row(0, 3, 0, 0), row(11, 4, 0, 1), row(39, 2, 0, 2));
        WatchStack early = on(50, 40, 0, Texts.task(0, 10, 11, 120, 0, 40) + "node 1;wrong 0 job 0 times 1;");
        s.records(early, row(0, 4, 0, 0), row(20, 1, 0, 1), row(40, 1, 0, 2));
        WatchStack alive = on(30, 10, 0, Texts.task(0, 10, 0, 120, 2, 40) + "node 1;");
        s.records(alive, row(9, 5, 0, 0), row(19, 5, 0, 1), row(29, 5, 0, 2));
        s.due("COUNT of ALIVE", alive.memory(0, 30), 3);
        // of each TASK its own
        WatchStack own = on(30, 50, 0, Texts.wide(10) + "node 1;" + Texts.wide(10) + "node 1;wrong 0 job 0 times 2;wrong 1 job 1 times 1;");
        s.records(own, row(0, 4, 0, 0), row(10, 4, 0, 1));
        s.records(on(30, 50, 0, "watcher under 0;" + Texts.wide(10) + "node 1;" + under(1, 10) + "node 1;"
                + "wrong 0 job 0 times 2;wrong 1 job 1 times 1;"), row(0, 4, 0, 0), row(10, 4, 0, 1), row(11, 4, 1, 0));
    }

    private void levelOfWatchers() {
        s.says("Terms", "Of a WATCHER (6): 2 the first time for it, 3 else. Of the DOG (7; who: 0): 3.");
        s.records(on(40, 10, 0, FAN + "sleep 1 tick 9;sleep 1 tick 19;sleep 1 tick 29;"), row(9, 6, 1, 2), row(19, 6, 1, 3),
                row(29, 6, 1, 3));
        // the first time of 2 is its own
        s.records(on(40, 10, 0, FAN + "sleep 1 tick 9;sleep 2 tick 19;sleep 1 tick 29;sleep 2 tick 39;"), row(9, 6, 1, 2),
                row(19, 6, 2, 2), row(29, 6, 1, 3), row(39, 6, 2, 3));
        s.records(on(40, 10, 0, FAN + "sleep 1 tick 9;sleep 2 tick 9;"), row(9, 6, 1, 2), row(9, 6, 2, 2));
        s.records(on(40, 10, 0, FAN + "sleep 0 tick 9;sleep 0 tick 19;"), row(9, 7, 0, 3), row(19, 7, 0, 3));
        // as the run begins again behind an act, it is the first time again
        WatchStack again = on(40, 10, 0, FAN + "sleep 1 tick 9;");
        s.due("an act", again.inject(5, 2, 19, 0, 0), 2);
        s.records(again, row(9, 6, 1, 2), row(19, 6, 2, 2));
        s.due("an act", again.inject(5, 2, 29, 0, 0), 3);
        s.records(again, row(9, 6, 1, 2), row(19, 6, 2, 2), row(29, 6, 2, 3));
        // the DOG's reset of 0 is no first time of 1
        s.records(on(40, 10, 0, FAN + "sleep 0 tick 9;sleep 1 tick 19;"), row(9, 7, 0, 3), row(19, 6, 1, 2));
    }

    private static final String FOUR = under(1, 10) + "node 1;" + under(1, 10) + "node 6;" + under(2, 10) + "node 1;"
            + under(0, 10) + "node 1;";

    private void levelZero() {
        s.says("Terms", "LEVEL 0: the TASK is restarted.");
        WatchStack x = on(60, 50, 0, FAN + FOUR + "wrong 0 job 0 times 1;");
        starts(x, 0, 0, 0, 0, 0);
        starts(x, 1, 10, 0, 0, 0);
        starts(x, 60, 10, 0, 0, 0);
        s.due("the others go on", x.jobs(1, 60), 6);
        s.due("their kicks", x.kicks(1, 60), 6);
    }

    private void levelOne() {
        s.says("Terms", "1: all TASKS under its WATCHER (not over others).");
        WatchStack x = on(60, 50, 0, FAN + FOUR + "wrong 0 job 0 times 2;");
        starts(x, 10, 10, 0, 0, 0);
        starts(x, 11, 20, 20, 0, 0);
        s.due("job 1 of 1 is gone", x.at(1, 11), -1);
        s.due("it began", x.jobs(1, 11), 2);
        s.due("it has no KICK", x.kicks(1, 20), 1);
        s.due("COUNT of the other", x.memory(1, 60), 0);
        s.due("HEALTH of the other", x.health(1, 11), Texts.bits(1f));
        // of WATCHER 0: not those under 1 and 2
        starts(on(60, 50, 0, FAN + FOUR + "wrong 3 job 0 times 2;"), 25, 0, 0, 0, 20);
        // it wakes none, not even its own WATCHER
        WatchStack asleep = on(40, 50, 0, FAN + FOUR + "wrong 0 job 0 times 2;sleep 1 tick 5;");
        s.due("1 sleeps on", asleep.sleeps(1, 11), 1);
        s.due("1 sleeps on", asleep.sleeps(1, 40), 1);
    }

    private void levelTwo() {
        s.says("Terms", "2: its WATCHER (of kind 6: that one) is reset: all TASKS under it or under WATCHERS below it"
                + " (over others or not) are restarted, it and those wake up.");
        String wrong = "wrong 0 job 0 times 3;";
        starts(on(60, 50, 0, FAN + FOUR + wrong), 21, 30, 30, 0, 0);
        starts(on(60, 50, 0, ROW + FOUR + wrong), 21, 30, 30, 30, 0);
        starts(on(60, 50, 0, FAN + FOUR + "wrong 3 job 0 times 3;"), 29, 30, 30, 30, 30);
        starts(on(60, 50, 0, ROW + FOUR + "wrong 3 job 0 times 3;"), 29, 30, 30, 30, 30);
        starts(on(60, 50, 0, ROW + FOUR + "wrong 2 job 0 times 3;"), 29, 0, 0, 30, 0);
        String sleeps = "sleep 0 tick 15;sleep 1 tick 15;sleep 2 tick 15;";
        int[][] asleep = {{1, 0, 1}, {1, 0, 0}};
        for (int i = 0; i < 2; i++) {
            WatchStack x = on(60, 50, 0, (i == 0 ? FAN : ROW) + FOUR + wrong + sleeps);
            for (int w = 0; w < 3; w++) {
                s.due("sleeps ahead", x.sleeps(w, 20), 1);
                s.due("sleeps behind", x.sleeps(w, 21), asleep[i][w]);
            }
        }
        WatchStack root = on(60, 50, 0, ROW + FOUR + "wrong 3 job 0 times 3;" + sleeps);
        for (int w = 0; w < 3; w++) s.due("0 wakes all", root.sleeps(w, 29), 0);
        // of kind 6: that one, and what is below it
        starts(on(30, 10, 0, FAN + FOUR + "sleep 2 tick 9;"), 10, 0, 0, 10, 0);
        starts(on(30, 10, 0, FAN + FOUR + "sleep 1 tick 9;"), 10, 10, 10, 0, 0);
        starts(on(30, 10, 0, ROW + FOUR + "sleep 1 tick 9;"), 10, 10, 10, 10, 0);
        starts(on(30, 10, 0, ROW + FOUR + "sleep 2 tick 9;"), 10, 0, 0, 10, 0);
        WatchStack both = on(30, 10, 0, ROW + FOUR + "sleep 1 tick 9;sleep 2 tick 9;");
        s.due("2 wakes too", both.sleeps(2, 10), 0);
        WatchStack lower = on(30, 10, 0, ROW + FOUR + "sleep 2 tick 9;sleep 0 tick 5;");
        s.due("the DOG wakes 0", lower.sleeps(0, 10), 0);
    }

    private void levelThree() {
        s.says("Terms", "3: the BOARD: all TASKS are restarted, all WATCHERS wake up, and the TICK ends (nothing more is asked"
                + " at it); the third time the board HALTS: nothing happens any more, all stays as it is then.");
        WatchStack x = on(60, 50, 0, ROW + FOUR + "wrong 2 job 0 times 4;sleep 0 tick 30;sleep 1 tick 3;sleep 2 tick 33;");
        // 2 has its TICK behind 0 and 1: at 7, 17, 27, 37
        s.due("LEVEL 3", x.record(3, 3), 3);
        s.due("TICK", x.record(3, 0), 37);
        starts(x, 37, 0, 0, 30, 0);
        starts(x, 38, 40, 40, 40, 40);
        for (int w = 0; w < 3; w++) {
            s.due("asleep ahead", x.sleeps(w, 37), 1);
            s.due("awake behind", x.sleeps(w, 38), 0);
        }
        s.due("no HALT", x.halts(), -1);
        // the job of 3 that waited is gone
        s.due("had 37", x.had(37), 2);
        s.due("had 38", x.had(38), -1);
        // nothing more is asked at it: neither of 2 (asleep) nor by the DOG; no CYCLE is well
        String kick = ROW + under(2, 10) + "node 9;node 1 after 0;";
        s.records(on(40, 10, 0, kick + "wrong 0 job 0 times 4;sleep 1 tick 35;sleep 0 tick 35;"), row(9, 4, 0, 0), row(19, 4, 0, 1),
                row(29, 4, 0, 2), row(39, 4, 0, 3));
        s.records(on(40, 10, 0, kick + "wrong 0 job 0 times 3;sleep 1 tick 35;sleep 0 tick 35;"), row(9, 4, 0, 0), row(19, 4, 0, 1),
                row(29, 4, 0, 2), row(39, 7, 0, 3));
        // SLEEP of 1 at LEVEL 3: 2 is not asked any more
        s.records(on(40, 10, 0, FAN + "sleep 1 tick 9;sleep 1 tick 19;sleep 2 tick 19;"), row(9, 6, 1, 2), row(19, 6, 1, 3));
        // LATE of both at 34: behind the LEVEL 3 of 0, 1 is not asked any more, though under another WATCHER
        s.records(on(45, 50, 0, "watcher under 0;" + Texts.task(1, 10, 0, 5, 0, 40) + "node 1;" + Texts.task(0, 40, 0, 35, 0, 40)
                + "node 1;wrong 0 job 0 times 3;stop 0 job 3 node 0 times 1;stop 1 job 0 node 0 times 1;"),
                row(0, 4, 0, 0), row(10, 4, 0, 1), row(20, 4, 0, 2), row(34, 2, 0, 3));
        third();
    }

    private void third() {
        WatchStack two = on(60, 10, 0, "sleep 0 tick 9;sleep 0 tick 19;");
        s.due("twice is no HALT", two.halts(), -1);
        WatchStack x = on(60, 10, 0, Texts.wide(10) + "node 1;" + Texts.wide(60) + "node 1;" + Texts.task(0, 60, 0, 35, 0, 40)
                + "node 1;sleep 0 tick 9;sleep 0 tick 19;sleep 0 tick 29;sleep 0 tick 39;wrong 0 job 4 times 9;");
        s.due("HALT", x.halts(), 29);
        s.records(x, row(9, 7, 0, 3), row(19, 7, 0, 3), row(29, 7, 0, 3));
        starts(x, 30, 30, 60, 60);
        starts(x, 60, 30, 60, 60);
        for (int tick = 30; tick < 60; tick++) s.due("had " + tick, x.had(tick), -1);
        s.due("jobs", x.jobs(0, 60), 3);
        s.due("kicked", x.kicked(0, 60), 20);
        s.due("kicks", x.kicks(0, 60), 3);
        s.due("question", x.question(0, 60), 1);
        s.due("memory", x.memory(0, 60), 0);
        s.due("idle", x.idle(60), 60 - 5);
        // HALT at the last TICK, and with LEVEL 3 of TASKS
        WatchStack last = on(30, 10, 0, "sleep 0 tick 9;sleep 0 tick 19;sleep 0 tick 29;");
        s.due("HALT", last.halts(), 29);
        WatchStack tasks = on(100, 50, 9, Texts.wide(4) + "node 1;wrong 0 job 0 times 9;");
        s.due("HALT", tasks.halts(), 16);
        s.due("had 16", tasks.had(16), 0);
        for (int tick = 17; tick < 100; tick++) s.due("had " + tick, tasks.had(tick), -1);
        s.due("COUNT stays", tasks.memory(0, 100), 5);
        s.due("HEALTH stays", tasks.health(0, 100), Texts.bits(1 / 32f));
        // one SLEEP of LEVEL 3, one DOG, one LEVEL 3 of a TASK
        WatchStack mixed = on(100, 10, 9, "watcher under 0;" + Texts.wide(10) + "node 1;wrong 0 job 4 times 3;sleep 1 tick 9;"
                + "sleep 1 tick 19;sleep 0 tick 29;");
        s.due("HALT", mixed.halts(), 60);
        s.records(mixed, row(9, 6, 1, 2), row(19, 6, 1, 3), row(29, 7, 0, 3), row(40, 4, 0, 1), row(50, 4, 0, 2), row(60, 4, 0, 3));
    }

    private void restarted() {
        s.says("Terms", "Restarted: its JOB is gone, START is the next TICK behind this one that P divides, QUESTION 1.");
        // at 0, at 3 and at 4 of P 4
        starts(on(20, 50, 0, Texts.wide(4) + "node 1;wrong 0 job 0 times 1;"), 1, 4);
        starts(on(20, 50, 0, Texts.wide(4) + "node 4;wrong 0 job 0 times 1;"), 4, 4);
        starts(on(20, 50, 0, Texts.wide(4) + "node 5;wrong 0 job 0 times 1;"), 5, 8);
        starts(on(20, 50, 0, Texts.wide(60) + "node 1;wrong 0 job 0 times 1;"), 20, 60);
        starts(on(20, 50, 0, Texts.wide(19) + "node 1;wrong 0 job 1 times 1;"), 20, 38);
        WatchStack x = on(40, 50, 0, Texts.task(0, 10, 0, 14, 0, 40) + "node 2;stop 0 job 2 node 0 times 1;");
        s.due("LATE", x.record(0, 0), 25);
        s.due("QUESTION ahead", x.question(0, 25), 11);
        s.due("QUESTION behind", x.question(0, 26), 1);
        s.due("JOB ahead", x.at(0, 25), 0);
        s.due("JOB behind", x.at(0, 26), -1);
        s.due("START ahead", x.start(0, 25), 0);
        starts(x, 26, 30);
        s.due("none begins ahead of START", x.jobs(0, 30), 3);
        s.due("one begins at START", x.jobs(0, 31), 4);
        // a hang that is gone gives the TICKS back
        WatchStack hang = on(40, 50, 0, Texts.task(0, 20, 0, 5, 0, 40) + "node 1;" + Texts.wide(20) + "node 1;"
                + "hang 0 job 0 node 0 times 1;");
        s.due("had 4", hang.had(4), 0);
        s.due("had 5", hang.had(5), 1);
    }

    private void health() {
        s.says("Terms", "At a GOOD KICK HEALTH is HEALTH + (1 - HEALTH) * 0.25 (floats).");
        WatchStack x = on(200, 50, 0, Texts.wide(4) + "node 1;wrong 0 job 1 times 3;wrong 0 job 30 times 1;");
        float health = 1f;
        for (int job = 0; job < 50; job++) {
            s.due("ahead of job " + job, x.health(0, 4 * job), Texts.bits(health));
            boolean bad = job >= 1 && job <= 3 || job == 30;
            health = bad ? health / 2 : health + (1 - health) * 0.25f;
            s.due("behind job " + job, x.health(0, 4 * job + 1), Texts.bits(health));
        }
        // 1, 0.5, 0.625, 0.71875
        WatchStack y = on(40, 50, 0, Texts.wide(10) + "node 1;wrong 0 job 0 times 1;");
        s.due("0.5", y.health(0, 10), 0x3F000000);
        s.due("0.625", y.health(0, 20), 0x3F200000);
        s.due("0.71875", y.health(0, 30), 0x3F380000);
    }

    private void memory(WatchStack x, int t, int... ofCycles) {
        for (int c = 0; c < ofCycles.length; c++) s.due("COUNT as cycle " + c + " begins", x.memory(t, 10 * c), ofCycles[c]);
    }

    private void wellCycles() {
        s.says("Terms", "At the end of each CYCLE, last of all (if the BOARD was not reset at that TICK), each TASK without a FAULT"
                + " in the CYCLE, with COUNT above 0, has one CYCLE more that was well (0 at first, and behind each FAULT);"
                + " the third: COUNT is 1 less, and it begins at 0 again.");
        // FAULTS at the first TICK of a CYCLE, and (10 units) at the last one
        memory(on(60, 10, 0, Texts.wide(10) + "node 1;wrong 0 job 1 times 1;"), 0, 0, 0, 1, 1, 1, 0, 0);
        memory(on(60, 10, 0, Texts.wide(10) + "node 9;node 1 after 0;wrong 0 job 1 times 1;"), 0, 0, 0, 1, 1, 1, 0, 0);
        WatchStack third = on(49, 10, 0, Texts.wide(10) + "node 1;wrong 0 job 1 times 1;");
        s.due("ahead of 49", third.memory(0, 49), 1);
        WatchStack just = on(50, 10, 0, Texts.wide(10) + "node 1;wrong 0 job 1 times 1;");
        s.due("ahead of 49", just.memory(0, 49), 1);
        s.due("ahead of 50", just.memory(0, 50), 0);
        // behind each FAULT from 0 on: FAULTS in the CYCLES 0 and 3, then 4, 5, 6, and 7, 8, 9
        memory(on(110, 10, 0, Texts.wide(10) + "node 1;wrong 0 job 0 times 1;wrong 0 job 3 times 1;"), 0,
                0, 1, 1, 1, 2, 2, 2, 1, 1, 1, 0, 0);
        memory(on(110, 10, 0, Texts.wide(10) + "node 1;wrong 0 job 0 times 2;"), 0, 0, 1, 2, 2, 2, 1, 1, 1, 0, 0, 0);
        // two well ones, a FAULT, two, a FAULT: never less
        memory(on(70, 10, 0, Texts.wide(10) + "node 1;wrong 0 job 0 times 1;wrong 0 job 3 times 1;wrong 0 job 6 times 1;"), 0,
                0, 1, 1, 1, 2, 2, 2, 3);
        // well CYCLES with COUNT 0 do not count: 0 and 1 are none of the three
        memory(on(60, 10, 0, Texts.wide(10) + "node 1;wrong 0 job 2 times 1;"), 0, 0, 0, 0, 1, 1, 1, 0);
        // ALIVE at a CYCLE's end is a FAULT in it
        memory(on(40, 10, 0, Texts.task(0, 20, 0, 120, 0, 0) + "node 1;stop 0 job 1 node 0 times 9;"), 0, 0, 1, 1, 1, 0);
        // the FAULTS of others, and what restarts it, do not count for it: LEVEL 1 at 10
        WatchStack other = on(60, 10, 9, Texts.wide(10) + "node 1;" + Texts.wide(10) + "node 1;wrong 0 job 0 times 1;"
                + "wrong 1 job 1 times 1;");
        s.due("LEVEL", other.record(1, 3), 1);
        memory(other, 0, 0, 1, 1, 1, 0, 0);
        memory(other, 1, 0, 0, 1, 1, 1, 0);
        // the BOARD was reset at the TICK 29: that CYCLE is no well one; at another TICK it is
        memory(on(60, 10, 0, Texts.wide(10) + "node 1;wrong 0 job 0 times 1;sleep 0 tick 23;"), 0, 0, 1, 1, 1, 1, 0);
        WatchStack reset = on(110, 10, 0, Texts.wide(10) + "node 1;" + Texts.wide(10)
                + "node 1;wrong 0 job 4 times 4;wrong 1 job 4 times 1;");
        s.records(reset, row(40, 4, 0, 0), row(41, 4, 1, 0), row(50, 4, 0, 1), row(60, 4, 0, 2), row(70, 4, 0, 3));
        memory(reset, 1, 0, 0, 0, 0, 0, 1, 1, 1, 0, 0, 0);
        // an unfinished CYCLE is none
        memory(on(59, 20, 0, Texts.wide(10) + "node 1;wrong 0 job 0 times 1;"), 0, 0, 1, 1, 1, 1, 1);
        s.due("ahead of 59", on(59, 20, 0, Texts.wide(10) + "node 1;wrong 0 job 0 times 1;").memory(0, 59), 1);
    }

    private void outlive() {
        s.says("Terms", "COUNT, HEALTH, what WATCHERS had, RECORDS outlive restarts and resets.");
        WatchStack x = on(60, 10, 0, "watcher under 0;" + Texts.wide(10) + "node 1;" + under(1, 10) + "node 1;"
                + "wrong 0 job 0 times 1;wrong 1 job 0 times 1;sleep 1 tick 15;sleep 0 tick 25;sleep 1 tick 35;");
        // at 19 a reset of 1, at 29 and 39 resets of the BOARD
        s.records(x, row(0, 4, 0, 0), row(1, 4, 1, 0), row(19, 6, 1, 2), row(29, 7, 0, 3), row(39, 6, 1, 3));
        s.due("COUNT of 1 ahead of the reset", x.memory(1, 19), 1);
        s.due("COUNT of 1 behind it", x.memory(1, 20), 1);
        s.due("HEALTH of 1 ahead of it", x.health(1, 19), Texts.bits(0.625f));
        s.due("HEALTH of 1 behind it", x.health(1, 20), Texts.bits(0.625f));
        s.due("COUNT of 0 ahead of the BOARD's", x.memory(0, 29), 1);
        s.due("COUNT of 0 behind it", x.memory(0, 30), 1);
        s.due("HEALTH of 0 behind it", x.health(0, 30), x.health(0, 29));
        s.due("HEALTH of 0", x.health(0, 29), Texts.bits(0.71875f));
        s.due("kicks go on", x.kicks(0, 40), 3);
    }

    private void margins() {
        s.says("Terms", "V. MARGIN of a GOOD KICK that is not the first since START: (B - GAP) / (B - A), as a float of floats.");
        // GAP 10: B, A, and a third between
        margin(Texts.task(0, 10, 0, 10, 0, 40), 0f);
        margin(Texts.task(0, 10, 10, 11, 0, 40), 1f);
        margin(Texts.task(0, 10, 9, 12, 0, 40), 2 / 3f);
        margin(Texts.task(0, 10, 8, 11, 0, 40), 1 / 3f);
        margin(Texts.task(0, 10, 3, 120, 0, 40), 110 / 117f);
        WatchStack first = on(40, 50, 0, Texts.wide(40) + "node 1;");
        s.due("of the first one", first.margin(0, 40), -1);
        // each KICK is a first one, each second one is not GOOD
        WatchStack early = on(60, 50, 0, Texts.task(0, 10, 11, 120, 0, 40) + "node 2;");
        s.due("of first ones", early.margin(0, 60), -1);
        // the first one behind a restart has none: 20 of 30 at 11, a wrong one at 21, 31 the first again, GAP 10 at 41
        WatchStack again = on(60, 50, 0, Texts.task(0, 10, 0, 30, 0, 40) + "node 2;wrong 0 job 2 times 1;slow 0 job 3 node 0 times 1;");
        s.due("kicks", again.kicks(0, 60), 5);
        s.due("mean of 2 / 3, 22 / 30 and 2 / 3", again.mean(0, 60),
                Texts.bits(((double) (20 / 30f) + (double) (22 / 30f) + (double) (20 / 30f)) / 3));
    }

    private void margin(String task, float margin) {
        WatchStack x = on(40, 50, 0, task + "node 1;");
        s.due("ahead of the second KICK", x.margin(0, 10), -1);
        s.due("of " + task, x.margin(0, 11), Texts.bits(margin));
        s.due("mean of " + task, x.mean(0, 11), Texts.bits((double) margin));
    }
}
