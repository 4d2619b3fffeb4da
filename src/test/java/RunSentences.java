/** Terms II and III, sentence by sentence: jobs, what goes wrong with them, kicks, watchers. */
final class RunSentences {
    private static final String TWO = "watcher under 0;";

    private final Sentences s;

    RunSentences(Sentences s) {
        this.s = s;
    }

    void run() {
        ticks();
        jobsBegin();
        nodesInTurn();
        leastTaskHasIt();
        whichJobs();
        hang();
        stop();
        skip();
        slow();
        wrong();
        firstTold();
        sleep();
        questions();
        answers();
        kickFaults();
        gaps();
        good();
        late();
        endOfCycle();
        alive();
        asleep();
        dog();
    }

    private static WatchStack on(int h, int y, String rest) {
        return Check.on(Texts.board(h, y, 0) + rest);
    }

    private void had(WatchStack x, int... tasks) {
        for (int tick = 0; tick < tasks.length; tick++) s.due("had " + tick, x.had(tick), tasks[tick]);
    }

    private void records(WatchStack x, int[]... want) {
        s.records(x, want);
    }

    private static int[] row(int tick, int kind, int who, int level) {
        return new int[] {tick, kind, who, level};
    }

    // ------------------------------------------------------------ Terms II

    private void ticks() {
        s.says("Terms", "II. TICKS 0 .. H - 1.");
        WatchStack x = on(21, 50, Texts.wide(20) + "node 1;");
        had(x, 0, -1);
        s.due("had(20)", x.had(20), 0);
        s.due("had(21)", x.had(21), -2);
        s.due("had(-1)", x.had(-1), -2);
        s.due("jobs ahead of 20", x.jobs(0, 20), 1);
        s.due("jobs ahead of 21", x.jobs(0, 21), 2);
        s.due("kicks ahead of 21", x.kicks(0, 21), 2);
        WatchStack y = on(20, 50, Texts.wide(20) + "node 1;");
        s.due("jobs ahead of 20", y.jobs(0, 20), 1);
        s.due("had(19)", y.had(19), -1);
        s.due("had(20)", y.had(20), -2);
        WatchStack most = on(200, 50, Texts.wide(4) + "node 1;");
        s.due("jobs", most.jobs(0, 200), 50);
        s.due("had(196)", most.had(196), 0);
        s.due("had(199)", most.had(199), -1);
        s.due("had(200)", most.had(200), -2);
    }

    private void jobsBegin() {
        s.says("Terms", "A JOB of a TASK begins at each TICK from its START (at first 0) on that P divides,"
                + " if none of it is going on (else that one goes on, none begins);"
                + " its JOBS are numbered from 0 on, over all restarts.");
        WatchStack over = on(20, 50, Texts.wide(4) + "node 5;");
        had(over, 0, 0, 0, 0, 0, -1, -1, -1, 0, 0, 0, 0, 0, -1, -1, -1, 0, 0, 0, 0);
        int[] jobs = {0, 1, 1, 1, 1, 1, 1, 1, 1, 2};
        for (int tick = 0; tick < jobs.length; tick++) s.due("jobs " + tick, over.jobs(0, tick), jobs[tick]);
        s.due("jobs in all", over.jobs(0, 20), 3);
        WatchStack just = on(20, 50, Texts.wide(4) + "node 4;");
        s.due("idle", just.idle(20), 0);
        s.due("jobs 4", just.jobs(0, 4), 1);
        s.due("jobs 5", just.jobs(0, 5), 2);
        s.due("jobs in all", just.jobs(0, 20), 5);
        // restarted at 3 it begins at 4, restarted at 4 at 8
        WatchStack three = on(20, 50, Texts.wide(4) + "node 4;wrong 0 job 0 times 1;");
        records(three, row(3, 4, 0, 0));
        s.due("jobs 5", three.jobs(0, 5), 2);
        WatchStack four = on(20, 50, Texts.wide(4) + "node 5;wrong 0 job 0 times 1;");
        records(four, row(4, 4, 0, 0));
        s.due("had 7", four.had(7), -1);
        s.due("jobs 8", four.jobs(0, 8), 1);
        s.due("jobs 9", four.jobs(0, 9), 2);
        // the third JOB is 2 behind a restart, too
        WatchStack numbers = on(20, 50, Texts.wide(4) + "node 1;wrong 0 job 0 times 1;wrong 0 job 2 times 1;");
        records(numbers, row(0, 4, 0, 0), row(8, 4, 0, 1));
        s.due("jobs in all", numbers.jobs(0, 20), 5);
        s.due("kicks in all", numbers.kicks(0, 20), 3);
        // also those that a reset of the BOARD took: 0 at 0, 1 at 10, 2 at 20, 3 at 30, 4 at 40
        WatchStack board = on(45, 50, Texts.wide(10) + "node 1;" + Texts.wide(10) + "node 5;wrong 0 job 0 times 4;"
                + "wrong 1 job 4 times 1;");
        records(board, row(0, 4, 0, 0), row(10, 4, 0, 1), row(20, 4, 0, 2), row(30, 4, 0, 3));
        s.due("jobs of 1", board.jobs(1, 45), 5);
    }

    private void nodesInTurn() {
        s.says("Terms", "It goes through NODES from 0 on: each takes as many TICKS of its own as it has units;"
                + " behind one with SUCCESSORS (NODES that have it behind after, in order) it goes to the one at the JOB's"
                + " number modulo how many they are; behind one without it ends: KICK.");
        WatchStack x = on(60, 50, Texts.wide(10) + "node 1;node 2 after 0;node 3 after 0;node 1 after 1 2;");
        int[][] at = {{-1, 1, 1, 3, -1, -1}, {-1, 2, 2, 2, 3, -1}};
        for (int job = 0; job < 6; job++) {
            for (int i = 0; i < 6; i++) s.due("at " + (10 * job + i), x.at(0, 10 * job + i), at[job % 2][i]);
            s.due("kicked behind job " + job, x.kicked(0, 10 * job + 9), 10 * job + 3 + job % 2);
        }
        // one NODE, one unit: begun and kicked at one TICK
        WatchStack one = on(20, 50, Texts.wide(20) + "node 1;");
        s.due("at 0", one.at(0, 0), -1);
        s.due("at 1", one.at(0, 1), -1);
        s.due("kicked", one.kicked(0, 1), 0);
        // 2 and 1 of 0 in the order of the NODES, not of their telling: 1 is told behind 0, 2 behind 1 and 0
        WatchStack order = on(40, 50, Texts.wide(10) + "node 1;node 1 after 0;node 2 after 1 0;");
        s.due("job 0: 0, 1, 2", order.at(0, 1), 1);
        s.due("job 0: 0, 1, 2", order.at(0, 2), 2);
        s.due("job 0: kicks", order.kicked(0, 10), 3);
        s.due("job 1: 0, 2", order.at(0, 11), 2);
        s.due("job 1: kicks", order.kicked(0, 20), 12);
        // five SUCCESSORS: modulo 5
        WatchStack five = on(72, 50, Texts.wide(4) + "node 1;node 1 after 0;node 1 after 0;node 1 after 0;node 1 after 0;"
                + "node 1 after 0;");
        for (int job = 0; job < 18; job++) s.due("node of job " + job, five.at(0, 4 * job + 1), 1 + job % 5);
    }

    private void leastTaskHasIt() {
        s.says("Terms", "At each TICK the least TASK that has a JOB going on that is not stopped has it"
                + " (one TICK of its own); what ends in it ends at that TICK.");
        String two = Texts.wide(10) + "node 2;" + Texts.wide(10) + "node 3;";
        had(on(40, 50, two), 0, 0, 1, 1, 1, -1, -1, -1, -1, -1, 0, 0, 1);
        had(on(40, 50, two + "stop 0 job 0 node 0 times 1;"), 1, 1, 1, -1, -1, -1, -1, -1, -1, -1, 1, 1, 1, -1);
        had(on(40, 50, two + "stop 0 job 0 node 0 times 1;stop 1 job 0 node 0 times 1;"), -1, -1, -1);
        WatchStack x = on(40, 50, Texts.wide(4) + "node 1;" + Texts.wide(20) + "node 5;" + Texts.wide(20) + "node 1;");
        had(x, 0, 1, 1, 1, 0, 1, 1, 2, 0, -1);
        s.due("kicked ahead of 6", x.kicked(1, 6), -1);
        s.due("kicked ahead of 7", x.kicked(1, 7), 6);
        s.due("at 6", x.at(1, 6), 0);
        s.due("at 7", x.at(1, 7), -1);
        s.due("the last one waits", x.at(2, 7), 0);
        s.due("and ends at its TICK", x.kicked(2, 8), 7);
    }

    private void whichJobs() {
        s.says("Terms", "INJECTIONS change JOBS J .. J and M less 1 of T:");
        String text = Texts.wide(10) + "node 2;" + Texts.wide(10) + "node 2;";
        slowOnes(on(90, 50, text + "slow 0 job 1 node 0 times 2;"), 1, 2);
        slowOnes(on(90, 50, text + "slow 0 job 3 node 0 times 1;"), 3, 3);
        slowOnes(on(90, 50, text + "slow 0 job 0 node 0 times 1;"), 0, 0);
        slowOnes(on(90, 50, text + "slow 0 job 2 node 0 times 9;"), 2, 8);
        slowOnes(on(90, 50, text + "slow 0 job 50 node 0 times 9;"), 50, 50);
        records(on(90, 50, text + "wrong 1 job 2 times 2;"), row(23, 4, 1, 0), row(33, 4, 1, 1));
        records(on(90, 50, text + "wrong 1 job 8 times 9;"), row(83, 4, 1, 0));
    }

    private void slowOnes(WatchStack x, int from, int to) {
        for (int job = 0; job < 9; job++) {
            boolean slow = job >= from && job <= to;
            s.due("kicked of job " + job, x.kicked(0, 10 * job + 9), 10 * job + (slow ? 3 : 1));
            s.due("kicked of 1, job " + job, x.kicked(1, 10 * job + 9), 10 * job + (slow ? 5 : 3));
        }
    }

    private static final String PAIR = Texts.wide(10) + "node 2;node 1 after 0;" + Texts.wide(10) + "node 1;";

    private void hang() {
        s.says("Terms", "hang: NODE K never ends (it takes TICKS on and on).");
        WatchStack x = on(40, 50, PAIR + "hang 0 job 1 node 1 times 1;");
        had(x, 0, 0, 0, 1, -1, -1, -1, -1, -1, -1);
        for (int tick = 10; tick < 40; tick++) s.due("had " + tick, x.had(tick), 0);
        s.due("at 12", x.at(0, 12), 1);
        s.due("at 40", x.at(0, 40), 1);
        s.due("none begins", x.jobs(0, 40), 2);
        s.due("kicks", x.kicks(0, 40), 1);
        s.due("the other waits", x.at(1, 40), 0);
        s.due("its kicks", x.kicks(1, 40), 1);
        records(x);
        WatchStack first = on(40, 50, PAIR + "hang 0 job 0 node 0 times 1;");
        s.due("at NODE 0", first.at(0, 40), 0);
        s.due("kicks", first.kicks(0, 40), 0);
        // a NODE that the JOB does not come to: job 1 goes to the second of two
        WatchStack aside = on(40, 50, Texts.wide(10) + "node 1;node 1 after 0;node 1 after 0;hang 0 job 1 node 1 times 1;");
        s.due("kicks", aside.kicks(0, 40), 4);
    }

    private void stop() {
        s.says("Terms", "stop: at NODE K the JOB is stopped (it takes none).");
        WatchStack x = on(40, 50, PAIR + "stop 0 job 1 node 1 times 1;");
        had(x, 0, 0, 0, 1, -1, -1, -1, -1, -1, -1, 0, 0, 1, -1);
        s.due("at 12", x.at(0, 12), 1);
        s.due("at 40", x.at(0, 40), 1);
        s.due("none begins", x.jobs(0, 40), 2);
        s.due("kicks of the other", x.kicks(1, 40), 4);
        s.due("had 20", x.had(20), 1);
        records(x);
        WatchStack first = on(40, 50, PAIR + "stop 0 job 0 node 0 times 1;");
        had(first, 1, -1);
        s.due("at NODE 0", first.at(0, 1), 0);
        s.due("at NODE 0", first.at(0, 40), 0);
    }

    private void skip() {
        s.says("Terms", "skip: behind NODE K the JOB ends (KICK).");
        WatchStack x = on(40, 50, PAIR + "skip 0 job 1 node 0 times 1;");
        records(x, row(11, 3, 0, 0));
        had(x, 0, 0, 0, 1, -1, -1, -1, -1, -1, -1, 0, 0, 1);
        // the last NODE has none behind it: nothing is skipped
        WatchStack last = on(40, 50, PAIR + "skip 0 job 1 node 1 times 9;");
        records(last);
        s.due("kicks", last.kicks(0, 40), 4);
        // a NODE that the JOB does not come to
        String fork = Texts.wide(10) + "node 1;node 1 after 0;node 1 after 0;node 1 after 1;";
        records(on(40, 50, fork + "skip 0 job 1 node 1 times 1;"));
        records(on(40, 50, fork + "skip 0 job 2 node 1 times 1;"), row(21, 3, 0, 0));
    }

    private void slow() {
        s.says("Terms", "slow: NODE K takes twice its units.");
        WatchStack nine = on(40, 50, Texts.wide(40) + "node 9;slow 0 job 0 node 0 times 1;");
        s.due("kicked ahead of 17", nine.kicked(0, 17), -1);
        s.due("kicked ahead of 18", nine.kicked(0, 18), 17);
        s.due("one unit: two TICKS", on(40, 50, Texts.wide(40) + "node 1;slow 0 job 0 node 0 times 1;").kicked(0, 40), 1);
        // 2 and 3: NODE 1 alone makes 2 + 6
        String text = Texts.wide(40) + "node 2;node 3 after 0;";
        s.due("NODE 1", on(40, 50, text + "slow 0 job 0 node 1 times 1;").kicked(0, 40), 7);
        s.due("NODE 0", on(40, 50, text + "slow 0 job 0 node 0 times 1;").kicked(0, 40), 6);
    }

    private void wrong() {
        s.says("Terms", "wrong: the answer is one more, modulo 64.");
        records(on(40, 50, Texts.wide(10) + "node 2;wrong 0 job 1 times 2;"), row(11, 4, 0, 0), row(21, 4, 0, 1));
        // the 20th QUESTION is 38: the right ANSWER is 63, one more is 0
        WatchStack x = on(100, 50, Texts.wide(4) + "node 1;wrong 0 job 19 times 1;");
        s.due("QUESTION", x.question(0, 76), 38);
        s.due("the right ANSWER", x.answer(0, 19, 38), 63);
        records(x, row(76, 4, 0, 0));
        // twice told it is wrong all the same
        records(on(40, 50, Texts.wide(10) + "node 2;wrong 0 job 1 times 1;wrong 0 job 1 times 1;"), row(11, 4, 0, 0));
    }

    private void firstTold() {
        s.says("Terms", "Of several the first told counts (of hang, stop, skip, slow at one NODE of one JOB).");
        String text = Texts.wide(20) + "node 2;node 3 after 0;";
        s.due("slow, hang", on(40, 50, text + "slow 0 job 0 node 1 times 1;hang 0 job 0 node 1 times 1;").kicked(0, 20), 7);
        s.due("hang, slow", on(40, 50, text + "hang 0 job 0 node 1 times 1;slow 0 job 0 node 1 times 1;").kicked(0, 20), -1);
        s.due("slow, slow", on(40, 50, text + "slow 0 job 0 node 1 times 1;slow 0 job 0 node 1 times 1;").kicked(0, 20), 7);
        s.due("stop, hang", on(40, 50, text + "stop 0 job 0 node 0 times 1;hang 0 job 0 node 0 times 1;").had(0), -1);
        s.due("hang, stop", on(40, 50, text + "hang 0 job 0 node 0 times 1;stop 0 job 0 node 0 times 1;").had(19), 0);
        records(on(20, 50, text + "skip 0 job 0 node 0 times 1;stop 0 job 0 node 0 times 1;"), row(1, 3, 0, 0));
        records(on(20, 50, text + "skip 0 job 0 node 0 times 1;slow 0 job 0 node 0 times 1;"), row(1, 3, 0, 0));
        records(on(20, 50, text + "slow 0 job 0 node 0 times 1;skip 0 job 0 node 0 times 1;"));
        // at two NODES, of two JOBS each has its own
        s.due("two NODES", on(40, 50, text + "slow 0 job 0 node 0 times 1;slow 0 job 0 node 1 times 1;").kicked(0, 20), 9);
        WatchStack jobs = on(40, 50, text + "slow 0 job 0 node 1 times 1;hang 0 job 0 node 1 times 9;");
        s.due("job 0", jobs.kicked(0, 40), 7);
        s.due("job 1", jobs.at(0, 40), 1);
        // wrong is none of the four, nor does it keep one of them off
        records(on(20, 50, text + "slow 0 job 0 node 1 times 1;wrong 0 job 0 times 1;"), row(7, 4, 0, 0));
        records(on(20, 50, text + "wrong 0 job 0 times 1;slow 0 job 0 node 1 times 1;"), row(7, 4, 0, 0));
        // that of another TASK does not count
        s.due("another TASK", on(40, 50, text + text + "hang 1 job 0 node 0 times 1;slow 0 job 0 node 0 times 1;").kicked(0, 20), 6);
    }

    private void sleep() {
        s.says("Terms", "sleep: from TICK X on WATCHER W does not look, till it is woken up at X or behind it"
                + " (a sleep whose X is still to come stays).");
        records(on(40, 10, TWO + "sleep 1 tick 8;"), row(9, 6, 1, 2));
        records(on(40, 10, TWO + "sleep 1 tick 9;"), row(9, 6, 1, 2));
        records(on(40, 10, TWO + "sleep 1 tick 10;"), row(19, 6, 1, 2));
        records(on(40, 10, TWO + "sleep 1 tick 0;"), row(9, 6, 1, 2));
        records(on(40, 10, TWO + "sleep 1 tick 39;"), row(39, 6, 1, 2));
        records(on(40, 10, TWO + "sleep 1 tick 40;"));
        records(on(40, 10, TWO + "sleep 1 tick 9;sleep 1 tick 10;"), row(9, 6, 1, 2), row(19, 6, 1, 3));
        records(on(40, 10, TWO + "sleep 1 tick 9;sleep 1 tick 9;sleep 1 tick 1;"), row(9, 6, 1, 2));
        // LEVEL 2 of a TASK at 20 wakes: at X, behind X, not ahead of it
        String woken = TWO + Texts.task(1, 10, 0, 120, 0, 40) + "node 1;wrong 0 job 0 times 3;";
        int[][] three = {row(0, 4, 0, 0), row(10, 4, 0, 1), row(20, 4, 0, 2)};
        records(on(60, 50, woken + "sleep 1 tick 19;"), three);
        records(on(60, 50, woken + "sleep 1 tick 20;"), three);
        records(on(60, 50, woken + "sleep 1 tick 21;"), three[0], three[1], three[2], row(49, 6, 1, 2));
        records(on(60, 50, woken + "sleep 1 tick 3;sleep 1 tick 21;"), three[0], three[1], three[2], row(49, 6, 1, 2));
        records(on(60, 50, woken + "sleep 1 tick 21;sleep 1 tick 3;"), three[0], three[1], three[2], row(49, 6, 1, 2));
    }

    // ------------------------------------------------------------ Terms III

    private void questions() {
        s.says("Terms", "III. QUESTION of a TASK: 1 at its START; behind each KICK it is 13 times it and 7, modulo 64.");
        int[] row = {1, 20, 11, 22, 37, 40, 15, 10, 9, 60, 19, 62, 45, 16, 23, 50, 17, 36, 27, 38, 53};
        WatchStack x = on(100, 50, Texts.wide(4) + "node 1;");
        for (int k = 0; k < row.length; k++) {
            s.due("ahead of job " + k, x.question(0, 4 * k), row[k]);
            if (k > 0) s.due("behind job " + (k - 1), x.question(0, 4 * k - 3), row[k]);
        }
        WatchStack again = on(40, 50, Texts.wide(4) + "node 1;wrong 0 job 3 times 1;");
        int[] behind = {22, 1, 1, 1, 1, 20, 20, 20, 20, 11};
        for (int i = 0; i < behind.length; i++) s.due("tick " + (12 + i), again.question(0, 12 + i), behind[i]);
    }

    private void answers() {
        s.says("Terms", "ANSWER: from QUESTION, behind each NODE n 5 times it and n and 1, modulo 64.");
        WatchStack x = on(40, 50, Texts.wide(20) + "node 1;" + Texts.wide(20)
                + "node 1;node 1 after 0;node 1 after 1;node 1 after 2;node 1 after 3;node 1 after 4;");
        s.due("0", x.answer(0, 0, 0), 1);
        s.due("38: 191", x.answer(0, 0, 38), 63);
        s.due("51: 256", x.answer(0, 0, 51), 0);
        s.due("63: 316", x.answer(0, 0, 63), 60);
        // 1, 7, 38, 194 = 2, 15, 81 = 17
        s.due("six NODES", x.answer(1, 0, 0), 17);
    }

    private void kickFaults() {
        s.says("Terms", "A KICK has these FAULTS, the first one counts: 3 FLOW (its last NODE has SUCCESSORS),"
                + " 4 ANSWER (wrong), 1 EARLY (GAP is below A, but of the first KICK since START).");
        // kicks at 4 and 11: a GAP of 7
        String flow = Texts.task(0, 10, 9, 120, 0, 40) + "node 2;node 3 after 0;skip 0 job 1 node 0 times 1;";
        records(on(20, 50, flow), row(11, 3, 0, 0));
        records(on(20, 50, flow + "wrong 0 job 1 times 1;"), row(11, 3, 0, 0));
        records(on(20, 50, "watcher under 0;" + flow.replace("open 9", "open 0")), row(11, 3, 0, 0));
        // kicks at 1, 13 and 21: a GAP of 8
        String early = "node 2;slow 0 job 1 node 0 times 1;";
        records(on(30, 50, Texts.task(0, 10, 9, 120, 0, 40) + early), row(21, 1, 0, 0));
        records(on(30, 50, Texts.task(0, 10, 8, 120, 0, 40) + early));
        records(on(30, 50, Texts.task(0, 10, 9, 120, 0, 40) + early + "wrong 0 job 2 times 1;"), row(21, 4, 0, 0));
        // a GAP of 10 each, A 11: each second one; A 10: none
        records(on(60, 50, Texts.task(0, 10, 11, 120, 0, 40) + "node 2;"), row(11, 1, 0, 0), row(31, 1, 0, 1),
                row(51, 1, 0, 2));
        records(on(60, 50, Texts.task(0, 10, 10, 120, 0, 40) + "node 2;"));
        // of the first one since START GAP is 1, twice
        records(on(130, 50, Texts.task(0, 60, 99, 100, 0, 40) + "node 1;"), row(60, 1, 0, 0));
        // the first one may be wrong, or cut short
        records(on(20, 50, Texts.wide(20) + "node 1;wrong 0 job 0 times 1;"), row(0, 4, 0, 0));
        records(on(20, 50, Texts.wide(20) + "node 1;node 1 after 0;skip 0 job 0 node 0 times 1;"), row(0, 3, 0, 0));
    }

    private void gaps() {
        s.says("Terms", "GAP: its TICK less that of the KICK ahead of it"
                + " (of the first one since START: its TICK less START, and 1).");
        gapsOf(on(20, 50, Texts.wide(4) + "node 1;"), 1, 4, 4, 4, 4);
        gapsOf(on(20, 50, Texts.wide(4) + "node 4;"), 4, 4, 4, 4, 4);
        gapsOf(on(40, 50, Texts.wide(10) + "node 2;slow 0 job 1 node 0 times 1;"), 2, 12, 8, 10);
        // behind a restart: of the first one since START again
        gapsOf(on(60, 50, Texts.task(0, 10, 11, 120, 0, 40) + "node 2;"), 2, 2, 2);
        gapsOf(on(60, 50, Texts.wide(10) + "node 2;wrong 0 job 1 times 1;"), 2, 2, 10, 10, 10);
        gapsOf(on(60, 50, Texts.wide(10) + "node 2;" + Texts.wide(60) + "node 9;"), 2, 10, 10, 10, 10, 10);
    }

    private void gapsOf(WatchStack x, int... gaps) {
        for (int k = 0; k < gaps.length; k++) s.due("gap " + k, x.gap(0, k), gaps[k]);
        s.due("no more gaps", x.gap(0, gaps.length), -1);
    }

    private void good() {
        s.says("Terms", "A KICK without is GOOD.");
        WatchStack x = on(40, 50, Texts.wide(10) + "node 2;wrong 0 job 1 times 1;");
        int[] kicks = {0, 0, 1, 1, 1, 1, 1, 1, 1, 1, 1, 1, 1, 1, 1, 1, 1, 1, 1, 1, 1, 1, 2};
        for (int tick = 0; tick < kicks.length; tick++) s.due("kicks " + tick, x.kicks(0, tick), kicks[tick]);
        s.due("kicked ahead of 20", x.kicked(0, 20), 1);
        s.due("kicks in all", x.kicks(0, 40), 3);
        s.due("of a flow cut short", on(20, 50, Texts.wide(20) + "node 1;node 1 after 0;skip 0 job 0 node 0 times 1;").kicks(0, 20), 0);
        s.due("of an early one", on(30, 50, Texts.task(0, 10, 11, 120, 0, 40) + "node 1;").kicks(0, 20), 1);
    }

    private void late() {
        s.says("Terms", "2 LATE: at a TICK that is B or more behind the latest KICK (START less 1), when no KICK has come at it"
                + " (asked TASK by TASK, behind what was done at that TICK, from START on).");
        for (int b = 9; b < 15; b++) {
            // a kick at 1, none at 11
            records(on(20, 50, Texts.task(0, 10, 0, b, 0, 40) + "node 2;stop 0 job 1 node 0 times 1;"), row(1 + b, 2, 0, 0));
        }
        records(on(40, 50, Texts.task(0, 10, 0, 10, 0, 40) + "node 2;"));
        records(on(40, 50, Texts.task(0, 10, 0, 9, 0, 40) + "node 2;"), row(10, 2, 0, 0), row(30, 2, 0, 1));
        // of START less 1, with a KICK at the very TICK and without
        records(on(40, 50, Texts.task(0, 20, 0, 4, 0, 40) + "node 5;"), row(3, 2, 0, 0), row(23, 2, 0, 1));
        records(on(40, 50, Texts.task(0, 20, 0, 4, 0, 40) + "node 4;"), row(7, 2, 0, 0), row(27, 2, 0, 1));
        records(on(40, 50, Texts.task(0, 20, 0, 1, 0, 40) + "node 1;"), row(1, 2, 0, 0), row(21, 2, 0, 1));
        records(on(40, 50, Texts.task(0, 20, 0, 1, 0, 40) + "node 2;"), row(0, 2, 0, 0), row(20, 2, 0, 1));
        records(on(200, 50, Texts.wide(60) + "node 1;stop 0 job 0 node 0 times 1;"), row(119, 2, 0, 0));
        // a KICK that is not GOOD has come too, and START is behind it
        records(on(20, 50, Texts.task(0, 10, 0, 10, 0, 40) + "node 2;wrong 0 job 1 times 1;"), row(11, 4, 0, 0));
        // kicks at 0 and 1: both late at 12, unless the first one's LEVEL 1 restarts the other
        String both = Texts.task(0, 10, 0, 12, 0, 40) + "node 1;" + Texts.task(0, 10, 0, 11, 0, 40) + "node 1;"
                + "stop 0 job 1 node 0 times 1;stop 1 job 1 node 0 times 1;";
        records(on(20, 50, both), row(12, 2, 0, 0), row(12, 2, 1, 0));
        records(Check.on(Texts.board(20, 50, 9) + both), row(12, 2, 0, 1));
        records(Check.on(Texts.board(20, 50, 9) + TWO + both.replaceFirst("under 0", "under 1")), row(12, 2, 0, 1),
                row(12, 2, 1, 1));
        // at 13 the KICK of 1 is wrong, ahead of asking 0, that would be late
        WatchStack done = Check.on(Texts.board(20, 50, 9) + Texts.task(0, 10, 0, 13, 0, 40) + "node 1;" + Texts.wide(10)
                + "node 4;stop 0 job 1 node 0 times 1;wrong 1 job 1 times 1;");
        records(done, row(13, 4, 1, 1));
        s.due("START of 0", done.start(0, 14), 20);
    }

    private void endOfCycle() {
        s.says("Terms", "At the end of each CYCLE (TICKS c Y .. c Y and Y less 1), behind that, WATCHERS look,"
                + " the greatest first, but those that sleep:");
        String text = Texts.task(0, 10, 0, 120, 2, 3) + "node 2;";
        records(on(29, 10, text), row(9, 5, 0, 0), row(19, 5, 0, 1));
        records(on(30, 10, text), row(9, 5, 0, 0), row(19, 5, 0, 1), row(29, 5, 0, 2));
        records(on(20, 20, Texts.task(0, 20, 0, 120, 2, 3) + "node 1;"), row(19, 5, 0, 0));
        records(on(20, 21, Texts.task(0, 20, 0, 120, 2, 3) + "node 1;"));
        records(on(20, 5, Texts.task(0, 20, 0, 120, 1, 3) + "node 1;"), row(9, 5, 0, 0));
        // the KICK at the last TICK counts, that at the next one is of the next CYCLE
        records(on(30, 10, Texts.task(0, 10, 0, 120, 1, 1) + "node 9;node 1 after 0;"));
        records(on(30, 9, Texts.task(0, 9, 0, 120, 1, 1) + "node 9;node 1 after 0;"), row(8, 5, 0, 0),
                row(17, 5, 0, 1), row(26, 5, 0, 2));
        // LATE of 0 at 9, behind it ALIVE of 1
        records(on(20, 10, Texts.task(0, 20, 0, 10, 5, 9) + "node 1;stop 0 job 0 node 0 times 1;"
                + Texts.task(0, 20, 0, 120, 5, 9) + "node 1;"), row(9, 2, 0, 0), row(9, 5, 1, 0));
        // the greatest WATCHER first
        String two = TWO + Texts.task(0, 20, 0, 120, 5, 9) + "node 1;" + Texts.task(1, 20, 0, 120, 5, 9) + "node 1;";
        records(on(20, 10, two), row(9, 5, 1, 0), row(9, 5, 0, 0));
        records(on(20, 10, two + "sleep 1 tick 9;"), row(9, 5, 0, 0), row(9, 6, 1, 2));
        records(on(20, 10, two + "sleep 1 tick 10;"), row(9, 5, 1, 0), row(9, 5, 0, 0), row(19, 6, 1, 2));
    }

    private void alive() {
        s.says("Terms", "first each TASK under it (not over others), in order: 5 ALIVE, if its START is not behind the"
                + " CYCLE's first TICK, and it had fewer than L or more than M GOOD KICKS in the CYCLE;");
        // five GOOD KICKS a CYCLE
        records(on(40, 20, Texts.task(0, 4, 0, 120, 5, 5) + "node 1;"));
        records(on(20, 20, Texts.task(0, 4, 0, 120, 6, 6) + "node 1;"), row(19, 5, 0, 0));
        records(on(20, 20, Texts.task(0, 4, 0, 120, 0, 4) + "node 1;"), row(19, 5, 0, 0));
        records(on(20, 20, Texts.task(0, 4, 0, 120, 0, 5) + "node 1;"));
        records(on(20, 20, Texts.task(0, 4, 0, 120, 5, 40) + "node 1;"));
        // none at all
        records(on(20, 10, Texts.task(0, 20, 0, 120, 0, 0) + "node 9;node 9 after 0;node 9 after 1;"));
        records(on(20, 10, Texts.task(0, 20, 0, 120, 1, 1) + "node 9;node 9 after 0;node 9 after 1;"), row(9, 5, 0, 0));
        // START 10, 11 and 15 behind a wrong one at 0: asked of the CYCLES from 10, 20 and 20 on
        String wrong = "node 1;wrong 0 job 0 times 1;";
        records(on(30, 10, Texts.task(0, 10, 0, 120, 2, 3) + wrong), row(0, 4, 0, 0), row(19, 5, 0, 1), row(29, 5, 0, 2));
        records(on(30, 10, Texts.task(0, 11, 0, 120, 2, 3) + wrong), row(0, 4, 0, 0), row(29, 5, 0, 1));
        records(on(30, 10, Texts.task(0, 15, 0, 120, 2, 3) + wrong), row(0, 4, 0, 0), row(29, 5, 0, 1));
        records(on(30, 10, Texts.task(0, 60, 0, 120, 2, 3) + wrong), row(0, 4, 0, 0));
        // in order, unless the first one's LEVEL 1 restarts the other
        String both = Texts.task(0, 20, 0, 120, 5, 9) + "node 1;" + Texts.task(0, 20, 0, 120, 5, 9) + "node 1;";
        records(on(20, 10, both), row(9, 5, 0, 0), row(9, 5, 1, 0));
        records(Check.on(Texts.board(20, 10, 9) + both), row(9, 5, 0, 1));
        // that under a WATCHER below is that one's: it sleeps, so it is not asked
        records(on(20, 10, TWO + Texts.task(1, 20, 0, 120, 5, 9) + "node 1;sleep 1 tick 0;"), row(9, 6, 1, 2));
        records(on(20, 10, TWO + Texts.task(1, 20, 0, 120, 5, 9) + "node 1;sleep 0 tick 0;"), row(9, 5, 0, 0), row(9, 7, 0, 3));
        // what was not GOOD does not count: kicks at 0, 4, 8, 12 and a wrong one at 16, START 20
        records(on(39, 20, Texts.task(0, 4, 0, 120, 5, 5) + "node 1;wrong 0 job 4 times 1;"), row(16, 4, 0, 0));
    }

    private void asleep() {
        s.says("Terms", "then each WATCHER under it (not over others), in order: 6 SLEEP,"
                + " if that did not look at the end of this CYCLE.");
        String row3 = "watcher under 0;watcher under 1;";
        String fan = "watcher under 0;watcher under 0;";
        records(on(20, 10, fan + "sleep 1 tick 9;sleep 2 tick 9;"), row(9, 6, 1, 2), row(9, 6, 2, 2));
        records(on(20, 10, fan + "sleep 2 tick 9;"), row(9, 6, 2, 2));
        records(on(20, 10, row3 + "sleep 2 tick 9;"), row(9, 6, 2, 2));
        // 1 does not look, so none asks 2; the reset of 1 wakes it
        records(on(20, 10, row3 + "sleep 1 tick 9;sleep 2 tick 9;"), row(9, 6, 1, 2));
        records(on(20, 10, row3 + "sleep 1 tick 9;sleep 2 tick 10;"), row(9, 6, 1, 2), row(19, 6, 2, 2));
        records(on(20, 10, row3 + "sleep 0 tick 9;sleep 2 tick 9;"), row(9, 6, 2, 2), row(9, 7, 0, 3));
        records(on(20, 10, fan + "sleep 0 tick 9;sleep 2 tick 9;"), row(9, 7, 0, 3));
        // the TASKS ahead of the WATCHERS; a WATCHER that was woken at this TICK did not look all the same
        String task = row3 + Texts.task(1, 10, 0, 120, 2, 9) + "node 1;sleep 2 tick 25;";
        records(on(30, 10, task), row(9, 5, 0, 0), row(19, 5, 0, 1), row(29, 5, 0, 2), row(29, 6, 2, 2));
        // woken ahead of its look it looks: LEVEL 2 of a KICK at 29
        records(on(40, 10, TWO + Texts.task(1, 10, 0, 120, 0, 9) + "node 9;node 1 after 0;wrong 0 job 0 times 3;"
                + "sleep 1 tick 29;"), row(9, 4, 0, 0), row(19, 4, 0, 1), row(29, 4, 0, 2));
    }

    private void dog() {
        s.says("Terms", "Then the DOG: 7, if there is a WATCHER 0, and that did not.");
        records(on(20, 10, "sleep 0 tick 9;"), row(9, 7, 0, 3));
        records(on(20, 10, "sleep 0 tick 10;"), row(19, 7, 0, 3));
        records(on(20, 10, "sleep 0 tick 20;"));
        records(on(20, 10, ""));
        records(Check.on("board ticks 20 cycle 5 low 0;"));
        // behind the WATCHERS; not at a TICK that the BOARD's reset ended
        records(on(20, 10, TWO + Texts.task(1, 20, 0, 120, 5, 9) + "node 1;sleep 0 tick 9;"), row(9, 5, 0, 0), row(9, 7, 0, 3));
        WatchStack x = on(50, 10, TWO + Texts.task(1, 10, 0, 120, 2, 9) + "node 1;sleep 0 tick 35;");
        records(x, row(9, 5, 0, 0), row(19, 5, 0, 1), row(29, 5, 0, 2), row(39, 5, 0, 3), row(49, 5, 0, 3));
        s.due("0 is awake", x.sleeps(0, 40), 0);
    }
}
