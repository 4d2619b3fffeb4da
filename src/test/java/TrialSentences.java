import static java.lang.Integer.MAX_VALUE;
import static java.lang.Integer.MIN_VALUE;

/** Promises 43 to 53, 55 and 56, sentence by sentence: what would be otherwise, acts, images. */
final class TrialSentences {
    private static final int[] NO_TASK = {-1, 2, 5, MIN_VALUE, MAX_VALUE};

    private final Sentences s;

    TrialSentences(Sentences s) {
        this.s = s;
    }

    void run() {
        caught();
        without();
        blame();
        with();
        tight();
        loose();
        longest();
        silent();
        inject();
        injectRefused();
        undo();
        anew();
        image();
        back();
        calls();
    }

    private static WatchStack on(int h, String rest) {
        return Check.on(Texts.board(h, 50, 0) + rest);
    }

    private static String task(int p, int a, int b) {
        return Texts.task(0, p, a, b, 0, 40);
    }

    // ------------------------------------------------------------ promises 43 to 50

    private void caught() {
        s.says("Promise 43", "How many TICKS behind the one at which it sets in (JOB J begins; TICK X) an INJECTION's TASK"
                + " (WATCHER; WATCHER 0: the DOG's, too) has its first RECORD, at that TICK or behind it."
                + " NONE: there is none, it never sets in; -2: there is none such.");
        String two = Texts.wide(10) + "node 2;" + Texts.wide(10) + "node 2;";
        // 0: job 1 at 10, slow till 13; 1: job 2 at 20, in the TICKS 22 and 23
        WatchStack x = on(60, two + "wrong 0 job 1 times 1;wrong 1 job 2 times 1;slow 0 job 1 node 0 times 1;"
                + "slow 0 job 3 node 0 times 1;wrong 0 job 50 times 1;hang 1 job 5 node 0 times 1;wrong 0 job 6 times 1;");
        int[] all = {3, 3, 3, -1, -1, -1, -1};
        for (int i = 0; i < all.length; i++) s.due("caught " + i, x.caught(i), all[i]);
        for (int i : new int[] {-1, 7, 18, 19, MIN_VALUE, MAX_VALUE}) s.due("caught " + i, x.caught(i), -2);
        s.due("without a BOARD", new WatchStack().caught(0), -2);
        s.due("an act", x.inject(4, 1, 0, 0, 1), 3);
        // 1: job 0 at 0, ends at 3
        s.due("caught of the act", x.caught(7), 3);
        // at that TICK: one unit; a RECORD ahead of it is none
        WatchStack at = on(40, Texts.wide(10) + "node 1;wrong 0 job 0 times 1;wrong 0 job 2 times 1;slow 0 job 1 node 0 times 1;");
        s.due("at that TICK", at.caught(0), 0);
        s.due("at that TICK", at.caught(1), 0);
        s.due("10 behind it", at.caught(2), 10);
        // the JOB's number over restarts; a JOB that begins at the last TICK; one that would begin at H
        WatchStack last = on(21, Texts.wide(10) + "node 1;wrong 0 job 2 times 1;");
        s.due("at the last TICK", last.caught(0), 0);
        s.due("at H", on(20, Texts.wide(10) + "node 1;wrong 0 job 2 times 1;").caught(0), -1);
        // ALIVE, and a RECORD of its TASK that it has no part in, are RECORDS too
        s.due("ALIVE", Check.on(Texts.board(40, 20, 0) + Texts.task(0, 10, 0, 120, 2, 40) + "node 1;stop 0 job 1 node 0 times 1;")
                .caught(0), 9);
        s.due("another TASK's", on(40, two + "wrong 0 job 0 times 1;slow 1 job 0 node 0 times 1;").caught(1), -1);
        sleepsCaught();
    }

    private void sleepsCaught() {
        String row = "watcher under 0;" + Texts.wide(10) + "node 1;";
        WatchStack x = Check.on(Texts.board(60, 10, 0) + row + "sleep 1 tick 5;sleep 0 tick 19;sleep 1 tick 10;sleep 1 tick 199;"
                + "sleep 1 tick 9;sleep 0 tick 0;wrong 0 job 3 times 1;");
        // 0 sleeps from 0 on: the DOG at 9; 1 wakes with it; at 19 none looks: the DOG again
        s.records(x, new int[] {9, 7, 0, 3}, new int[] {19, 7, 0, 3}, new int[] {30, 4, 0, 0});
        int[] all = {-1, 0, -1, -1, -1, 9, 0};
        for (int i = 0; i < all.length; i++) s.due("caught " + i, x.caught(i), all[i]);
        WatchStack one = Check.on(Texts.board(60, 10, 0) + row + "sleep 1 tick 5;sleep 1 tick 10;sleep 1 tick 59;sleep 1 tick 60;"
                + "sleep 0 tick 20;wrong 0 job 2 times 1;");
        // SLEEP at 9, 19, 59; the DOG at 29
        int[] delays = {4, 9, 0, -1, 9, 0};
        for (int i = 0; i < delays.length; i++) s.due("caught " + i, one.caught(i), delays[i]);
        // of 1 not the DOG's, of 0 not those of TASK 0, of TASK 0 not the DOG's
        WatchStack apart = Check.on(Texts.board(40, 10, 0) + row + "sleep 1 tick 30;sleep 0 tick 30;wrong 0 job 3 times 1;"
                + "slow 0 job 3 node 0 times 1;");
        s.records(apart, new int[] {31, 4, 0, 0}, new int[] {39, 7, 0, 3});
        int[] of = {-1, 9, 1, 1};
        for (int i = 0; i < of.length; i++) s.due("caught " + i, apart.caught(i), of[i]);
        s.due("TASK 0 has none", Check.on(Texts.board(40, 10, 0) + row + "sleep 0 tick 30;slow 0 job 3 node 0 times 1;").caught(1), -1);
    }

    private static final String FOUR = task(10, 0, 30) + "node 2;" + task(10, 0, 30) + "node 2;"
            + "slow 0 job 1 node 0 times 1;wrong 0 job 1 times 1;wrong 1 job 2 times 2;wrong 1 job 3 times 2;";

    private void without() {
        s.says("Promise 44", "How many RECORDS there would be in all without an INJECTION. -2 likewise.");
        WatchStack x = on(60, FOUR);
        // 0 is wrong at 1, 1 at 2, 3 and 4
        s.due("RECORDS", x.faults(60), 4);
        int[] all = {4, 3, 3, 3};
        for (int i = 0; i < 4; i++) s.due("without " + i, x.without(i), all[i]);
        for (int i : new int[] {-1, 4, 18, 19, MIN_VALUE, MAX_VALUE}) s.due("without " + i, x.without(i), -2);
        s.due("an act", x.inject(4, 0, 0, 0, 1), 5);
        s.due("without the act", x.without(4), 4);
        s.due("without 0", x.without(0), 5);
        s.due("as it was", x.faults(60), 5);
        s.due("as it was", x.injection(4, 2), 0);
        s.due("undo", x.undo(), 0);
        s.due("without 4", x.without(4), -2);
        s.due("without a BOARD", new WatchStack().without(0), -2);
        // those behind it count in its place: without the hang the slow one does, without both none
        WatchStack order = on(40, task(20, 0, 5) + "node 3;hang 0 job 0 node 0 times 1;slow 0 job 0 node 0 times 1;");
        s.due("RECORDS", order.faults(40), 2);
        s.due("without the hang", order.without(0), 2);
        s.due("without the slow one", order.without(1), 2);
        // more of them than there are
        WatchStack more = on(60, task(10, 9, 30) + "node 2;slow 0 job 1 node 0 times 1;slow 0 job 2 node 0 times 4;");
        s.due("RECORDS", more.faults(60), 0);
        s.due("without 1", more.without(1), 1);
        // of 18
        String eight = task(10, 0, 30) + "node 2;";
        for (int i = 0; i < 8; i++) eight += "wrong 0 job " + i % 4 + " times 1;";
        WatchStack full = on(60, eight);
        for (int i = 0; i < 10; i++) s.due("inject", full.inject(4, 0, i < 9 ? i % 4 : 5, 0, 1), i < 9 ? 4 : 5);
        for (int i = 0; i < 17; i++) s.due("without " + i, full.without(i), 5);
        s.due("without 17", full.without(17), 4);
    }

    private void blame() {
        s.says("Promise 45", "The INJECTION without which there would be fewest, if fewer than there are, the first of several."
                + " NONE: none; -2: there is no BOARD.");
        s.due("without a BOARD", new WatchStack().blame(), -2);
        s.due("without INJECTIONS", on(60, task(10, 0, 30) + "node 2;").blame(), -1);
        s.due("not fewer", on(60, task(10, 0, 30) + "node 2;wrong 0 job 50 times 1;").blame(), -1);
        s.due("the first of several", on(60, FOUR).blame(), 1);
        s.due("more without it", on(60, task(10, 9, 30) + "node 2;slow 0 job 1 node 0 times 1;slow 0 job 2 node 0 times 4;").blame(), -1);
        // without 0 one less, without 1 three less, without 2 two less
        WatchStack x = on(60, Texts.wide(10) + "node 1;" + "wrong 0 job 0 times 1;wrong 0 job 1 times 2;wrong 0 job 4 times 2;");
        s.due("RECORDS", x.faults(60), 5);
        s.due("the first of two that are two less", x.blame(), 1);
        s.due("an act", x.inject(4, 0, 3, 0, 1), 6);
        s.due("as ahead", x.blame(), 1);
        WatchStack act = on(60, task(10, 0, 30) + "node 2;wrong 0 job 50 times 1;");
        s.due("an act", act.inject(4, 0, 0, 0, 1), 1);
        s.due("the act", act.blame(), 1);
        s.due("undo", act.undo(), 0);
        s.due("none again", act.blame(), -1);
        s.due("the first one told", on(60, Texts.wide(10) + "node 1;wrong 0 job 0 times 2;wrong 0 job 3 times 1;").blame(), 0);
        // two that do the same: without one of them there are as many
        s.due("neither", on(60, Texts.wide(10) + "node 1;wrong 0 job 0 times 1;wrong 0 job 0 times 1;").blame(), -1);
    }

    private void with() {
        s.says("Promise 46", "How many there would be, were A and B of a TASK others (A 0 .. 99, B A and 1 .. 120)."
                + " -2: there are none such.");
        WatchStack x = on(60, task(10, 5, 20) + "node 2;" + task(10, 0, 120) + "node 1;");
        s.due("as it is", x.with(0, 5, 20), 0);
        // GAPS of 10: with A 11 EARLY at 11, 31, 51; with B 9 LATE at 10, 30, 50; with B 1 at each START
        s.due("with 0 11 20", x.with(0, 11, 20), 3);
        s.due("with 0 10 20", x.with(0, 10, 20), 0);
        s.due("with 0 10 11", x.with(0, 10, 11), 0);
        s.due("with 0 0 9", x.with(0, 0, 9), 3);
        s.due("with 0 0 10", x.with(0, 0, 10), 0);
        s.due("with 0 0 1", x.with(0, 0, 1), 6);
        s.due("with 0 99 120", x.with(0, 99, 120), 3);
        s.due("with 0 99 100", x.with(0, 99, 100), 3);
        s.due("with 1 0 120", x.with(1, 0, 120), 0);
        s.due("as it was", x.task(0, 2), 5);
        s.due("as it was", x.task(0, 3), 20);
        s.due("as it was", x.faults(60), 0);
        int[][] none = {{-1, 20}, {100, 120}, {100, 101}, {7, 7}, {7, 6}, {7, 121}, {0, 0}, {99, 99}, {0, -1}, {MIN_VALUE, 20},
            {MAX_VALUE, MIN_VALUE}, {MAX_VALUE, MAX_VALUE}, {5, MAX_VALUE}, {5, MIN_VALUE}, {-1, 0}};
        for (int[] ab : none) s.due("with 0 " + ab[0] + " " + ab[1], x.with(0, ab[0], ab[1]), -2);
        for (int t : NO_TASK) s.due("with of " + t, x.with(t, 5, 20), -2);
        s.due("without a BOARD", new WatchStack().with(0, 5, 20), -2);
        // acts count in it
        s.due("an act", x.inject(4, 0, 1, 0, 1), 1);
        s.due("with 0 5 20", x.with(0, 5, 20), 1);
        s.due("with 0 0 9", x.with(0, 0, 9), 3);
    }

    private void tight() {
        s.says("Promise 47", "The least B (A and 1 ..) of a TASK with which there would be no more than there are."
                + " -2: there is no such TASK.");
        WatchStack x = on(60, task(10, 5, 20) + "node 2;" + task(10, 0, 120) + "node 1;");
        s.due("GAPS of 10", x.tight(0), 10);
        s.due("GAPS of 3 and 10", x.tight(1), 10);
        s.due("of one KICK at 1, H 20", on(20, task(20, 0, 120) + "node 2;").tight(0), 19);
        s.due("A and 1", on(60, task(10, 9, 20) + "node 2;").tight(0), 10);
        s.due("A and 1", on(60, task(10, 10, 20) + "node 2;").tight(0), 11);
        // LATE at 5 and 25 with each B to 6 too
        s.due("as it is", on(60, task(10, 5, 6) + "node 9;").tight(0), 6);
        s.due("its own B", on(60, task(10, 0, 10) + "node 2;").tight(0), 10);
        for (int t : NO_TASK) s.due("tight " + t, x.tight(t), -2);
        s.due("without a BOARD", new WatchStack().tight(0), -2);
        s.due("as it was", x.task(0, 3), 20);
        // with B 1 there is LATE at each START: 0 .. 50; as many as wrong ones there are
        WatchStack wrong = on(60, task(10, 0, 20) + "node 2;wrong 0 job 0 times 9;");
        s.due("RECORDS", wrong.faults(60), 6);
        s.due("no more than there are", wrong.tight(0), 1);
    }

    private void loose() {
        s.says("Promise 48", "The greatest A (below B, 99 at most) with which there would be no more. -2 likewise.");
        WatchStack x = on(60, task(10, 5, 20) + "node 2;" + task(10, 0, 120) + "node 1;");
        s.due("GAPS of 10", x.loose(0), 10);
        s.due("GAPS of 10", x.loose(1), 10);
        s.due("99 at most", on(20, task(20, 0, 120) + "node 2;").loose(0), 99);
        s.due("99 below 100", on(20, task(20, 0, 100) + "node 2;").loose(0), 99);
        s.due("98 below 99", on(20, task(20, 0, 99) + "node 2;").loose(0), 98);
        s.due("below B", on(60, task(10, 5, 11) + "node 2;").loose(0), 10);
        s.due("below B", on(60, task(10, 0, 10) + "node 2;").loose(0), 9);
        s.due("below B, its own A", on(60, task(10, 5, 6) + "node 9;").loose(0), 5);
        s.due("its own A", on(60, task(10, 10, 20) + "node 2;").loose(0), 10);
        // each KICK is wrong, so none is EARLY: as many as there are
        WatchStack wrong = on(60, task(10, 0, 20) + "node 2;wrong 0 job 0 times 9;");
        s.due("RECORDS", wrong.faults(60), 6);
        s.due("no more than there are", wrong.loose(0), 19);
        for (int t : NO_TASK) s.due("loose " + t, x.loose(t), -2);
        s.due("without a BOARD", new WatchStack().loose(0), -2);
        s.due("as it was", x.task(0, 2), 5);
    }

    private void longest() {
        s.says("Promise 49", "For each JOB (0 .. 50) of a TASK that begins in the run as it is, and each of its NODES"
                + " (kind wrong: once a JOB): were there an INJECTION of a kind (0 .. 4) more, behind all others,"
                + " of that JOB alone (M 1): caught() of it: the greatest of all. NONE: all are NONE, there are no JOBS;"
                + " -2: there are none such.");
        WatchStack x = on(60, task(10, 8, 12) + "node 2;node 3 after 0;");
        // KICK at 4: LATE at 16, of job 1 at 10; of job 0 at 11. slow: KICK at 7 or 6, then at 14: EARLY
        int[] all = {11, 11, 1, 14, 4};
        for (int kind = 0; kind < 5; kind++) s.due("longest " + kind, x.longest(0, kind), all[kind]);
        s.due("as it was", x.faults(60), 0);
        s.due("as it was", x.count(6), 0);
        for (int kind : new int[] {-1, 5, 6, MIN_VALUE, MAX_VALUE}) s.due("longest " + kind, x.longest(0, kind), -2);
        for (int t : new int[] {-1, 1, 5, MIN_VALUE, MAX_VALUE}) s.due("longest of " + t, x.longest(t, 0), -2);
        s.due("without a BOARD", new WatchStack().longest(0, 0), -2);
        // behind all others: slow was told first
        WatchStack masked = on(20, task(20, 0, 120) + "node 2;slow 0 job 0 node 0 times 1;");
        for (int kind = 0; kind < 4; kind++) s.due("all are NONE", masked.longest(0, kind), -1);
        s.due("wrong", masked.longest(0, 4), 3);
        // each TASK has a JOB at 0, so there are always some
        WatchStack late = on(20, task(60, 0, 120) + "node 1;");
        s.due("one JOB, hang", late.longest(0, 0), -1);
        s.due("one JOB, wrong", late.longest(0, 4), 0);
        // M 1: job 0 alone is stopped; were job 1 too, LATE would come again, at 25
        WatchStack alone = on(40, task(20, 0, 10) + "node 1;node 1 after 0;");
        s.due("stop", alone.longest(0, 1), 9);
        // a RECORD that it has no part in counts as well: job 0 is slow, job 1 is wrong at 20
        s.due("any RECORD of its TASK", on(40, task(20, 0, 120) + "node 1;wrong 0 job 1 times 1;").longest(0, 3), 20);
        // as many as can be, and one more
        String eight = task(10, 0, 30) + "node 2;";
        for (int i = 0; i < 8; i++) eight += "wrong 0 job 50 times 1;";
        WatchStack full = on(60, eight);
        for (int i = 0; i < 10; i++) s.due("inject", full.inject(0, 0, 49, 0, 1), 0);
        s.due("the 19th", full.longest(0, 4), 1);
        s.due("none of it stays", full.injection(18, 0), -2);
        s.due("none of it stays", full.injection(17, 0), 0);
        inTheRunAsItIs();
        // asked again behind an act and behind its taking back
        s.due("skip", x.longest(0, 2), 1);
        s.due("hang", x.inject(0, 0, 0, 0, 1), 1);
        s.due("skip of job 0, that hangs", x.longest(0, 2), 11);
        s.due("undo", x.undo(), 0);
        s.due("skip", x.longest(0, 2), 1);
    }

    /** What was ahead of the JOB counts on: a JOB of another TASK, COUNT, HEALTH, CYCLES, resets, who was woken. */
    private void inTheRunAsItIs() {
        // 0 is at its NODE 1 from 21 to 29, so the JOB of 1 that begins at 24 has its first TICK at 30
        String units = Texts.wide(20) + "node 1;node 9 after 0;" + Texts.wide(6) + "node 1;node 1 after 0;skip 0 job 0 node 0 times 1;";
        probe("units", on(36, units), 1, 2, 6, 5);
        // 0 hangs from 20 till LATE at 25
        String hang = task(20, 0, 25) + "node 1;" + Texts.wide(6) + "node 1;node 1 after 0;hang 0 job 1 node 0 times 1;";
        probe("hang", on(40, hang), 1, 2, 2, 7);
        // COUNT 1 of 0: LEVEL 1 at 20 takes the JOB of 1 that hangs from 11 on, so LATE at 26 does not come
        String count = Texts.wide(10) + "node 1;" + task(10, 0, 25) + "node 1;wrong 0 job 0 times 1;wrong 0 job 2 times 1;";
        probe("COUNT", on(40, count), 1, 0, -1, 4);
        // HEALTH 0.3125 at 20 is below 0.4: LEVEL 2 takes it from under the WATCHER below; from 30 on LATE comes at 54 first
        probe("HEALTH", Check.on(Texts.board(100, 50, 4) + "watcher under 0;" + count.replace(task(10, 0, 25),
                Texts.task(1, 10, 0, 25, 0, 40))), 1, 0, 24, 4);
        // the CYCLES 1, 2 and 3 of 0 are well: LEVEL 0 at 40, so the JOB of 1 from 30 on is LATE at 46
        probe("CYCLES", Check.on(Texts.board(60, 10, 0) + count.replace("job 2", "job 4")), 1, 0, 24, 1);
        // the FAULT of 0 in the CYCLE 0 keeps that from being well: LEVEL 1 at 60 takes the JOB from 10 on ahead of LATE at 61
        probe("FAULT in the CYCLE", Check.on(Texts.board(80, 20, 0) + Texts.wide(60) + "node 1;" + task(10, 0, 60)
                + "node 1;wrong 0 job 0 times 2;"), 1, 0, 59, 7);
        // the third reset at 39 is the HALT
        probe("resets", Check.on(Texts.board(60, 10, 0) + Texts.wide(10) + "node 1;sleep 0 tick 9;sleep 0 tick 19;sleep 0 tick 39;"
                + "wrong 0 job 5 times 1;"), 0, 3, -1, 4);
        // each run of its own comes to the HALT at 29, but for those that are caught ahead of it
        probe("HALT", Check.on(Texts.board(60, 10, 0) + Texts.wide(10) + "node 1;node 1 after 0;sleep 0 tick 9;sleep 0 tick 19;"
                + "sleep 0 tick 29;"), 0, 2, 0, 3);
        // 1 was woken at 9, and does not sleep at 19
        probe("woken", Check.on(Texts.board(30, 10, 0) + "watcher under 0;" + Texts.task(1, 10, 0, 15, 0, 40)
                + "node 1;sleep 1 tick 5;"), 0, 0, 14, 1);
        // the second SLEEP of 1 at 29 has LEVEL 3: it takes the JOB of 0 from 20 on ahead of LATE at 35
        probe("SLEEP", Check.on(Texts.board(40, 10, 0) + "watcher under 0;" + task(10, 0, 25)
                + "node 1;sleep 1 tick 5;sleep 1 tick 25;"), 0, 0, 24, 2);
        // RECORDS of another run are none of this one: from 40 on LATE would come at 65
        probe("RECORDS", on(60, task(20, 0, 45) + "node 1;" + Texts.wide(60)
                + "node 9;node 9 after 0;node 3 after 1;wrong 1 job 0 times 1;"), 0, 0, 44, 1);
    }

    /** What longest() and silent() answer, and what inject(), caught() and undo() make of it one by one. */
    private void probe(String call, WatchStack x, int task, int kind, int longest, int silent) {
        s.due(call + ": longest", x.longest(task, kind), longest);
        s.due(call + ": silent", x.silent(task, kind), silent);
        int most = -1;
        int none = 0;
        int h = x.count(0);
        int last = x.count(5);
        int jobs = x.jobs(task, h);
        for (int job = 0; job < jobs; job++) {
            for (int node = 0; node < x.task(task, 6) && (kind < 4 || node == 0); node++) {
                s.due(call + ": inject", x.inject(kind, task, job, node, 1) >= 0 ? 1 : 0, 1);
                int caught = x.caught(last);
                most = Math.max(most, caught);
                none += caught < 0 ? 1 : 0;
                s.due(call + ": undo", x.undo(), 0);
            }
        }
        s.due(call + ": longest, one by one", x.longest(task, kind), most);
        s.due(call + ": silent, one by one", x.silent(task, kind), none);
    }

    private void silent() {
        s.says("Promise 50", "Of how many of these caught() would be NONE. -2 likewise.");
        WatchStack x = on(60, task(10, 8, 12) + "node 2;node 3 after 0;");
        // six JOBS, two NODES: a skip at the last NODE is none; a slow one in the last JOB, and where GAPS stay in the window
        int[] all = {0, 0, 6, 6, 0};
        for (int kind = 0; kind < 5; kind++) s.due("silent " + kind, x.silent(0, kind), all[kind]);
        s.due("as it was", x.faults(60), 0);
        for (int kind : new int[] {-1, 5, 6, MIN_VALUE, MAX_VALUE}) s.due("silent " + kind, x.silent(0, kind), -2);
        for (int t : new int[] {-1, 1, 5, MIN_VALUE, MAX_VALUE}) s.due("silent of " + t, x.silent(t, 0), -2);
        s.due("without a BOARD", new WatchStack().silent(0, 0), -2);
        WatchStack masked = on(20, task(20, 0, 120) + "node 2;slow 0 job 0 node 0 times 1;");
        for (int kind = 0; kind < 4; kind++) s.due("masked", masked.silent(0, kind), 1);
        s.due("wrong once a JOB", on(60, task(10, 0, 120) + "node 1;node 1 after 0;wrong 0 job 50 times 1;").silent(0, 4), 0);
        WatchStack hangs = on(20, task(10, 0, 120) + "node 1;node 1 after 0;hang 0 job 1 node 1 times 1;");
        s.due("wrong of a JOB that hangs", hangs.silent(0, 4), 1);
        s.due("each NODE of it", hangs.silent(0, 1), 4);
        // each of the NODES of the TASK, on the JOB's way or not: at 0 and 10 one of 1 and 2 is aside
        WatchStack fork = on(20, task(10, 0, 10) + "node 1;node 1 after 0;node 1 after 0;");
        s.due("hang", fork.longest(0, 0), 9);
        s.due("hang silent", fork.silent(0, 0), 2);
        // 50 JOBS of one NODE, none caught but by LATE: from the KICK ahead 119 TICKS, so of the jobs to 20
        WatchStack most = on(200, task(4, 0, 120) + "node 1;");
        s.due("jobs", most.jobs(0, 200), 50);
        s.due("hang", most.longest(0, 0), 119);
        s.due("hang silent", most.silent(0, 0), 29);
        s.due("slow silent", most.silent(0, 3), 50);
    }

    // ------------------------------------------------------------ promises 51 to 53, 55, 56

    private void inject() {
        s.says("Promise 51", "An INJECTION more, of a kind, who, J (X), K, M (0 for those it has not):"
                + " how many RECORDS there are in all then.");
        WatchStack x = on(60, task(10, 0, 30) + "node 2;node 1 after 0;" + task(10, 0, 120) + "node 1;");
        s.due("wrong", x.inject(4, 0, 0, 0, 1), 1);
        s.due("wrong", x.inject(4, 1, 1, 0, 2), 3);
        s.due("sleep", x.inject(5, 0, 49, 0, 0), 4);
        s.due("skip at NODE 1", x.inject(2, 0, 3, 1, 9), 4);
        s.due("skip at NODE 0", x.inject(2, 0, 3, 0, 1), 5);
        s.due("acts", x.count(6), 5);
        s.due("told", x.count(5), 0);
        // behind what was told: that counts first
        WatchStack told = on(60, task(10, 0, 30) + "node 2;slow 0 job 0 node 0 times 1;");
        s.due("hang behind slow", told.inject(0, 0, 0, 0, 1), 0);
        s.due("hang", told.inject(0, 0, 1, 0, 1) > 0 ? 1 : 0, 1);
        // each at its bounds
        WatchStack all = on(60, task(10, 0, 30) + "node 2;node 1 after 0;");
        int[][] some = {{0, 0, 50, 1, 9}, {1, 0, 50, 0, 1}, {2, 0, 50, 1, 1}, {3, 0, 50, 1, 9}, {4, 0, 50, 0, 9}, {4, 0, 50, 0, 1},
            {5, 0, 199, 0, 0}};
        for (int[] a : some) s.due("inject " + a[0], all.inject(a[0], a[1], a[2], a[3], a[4]), 0);
        s.due("J 0, X 0", all.inject(5, 0, 0, 0, 0), 1);
        s.due("J 0", all.inject(4, 0, 0, 0, 1), 2);
    }

    private void injectRefused() {
        s.says("Promise 51", "-2: there are none such (bounds as told); -5: there are 10 acts (not taken back).");
        String board = task(10, 0, 30) + "node 2;node 1 after 0;" + task(10, 0, 30) + "node 1;";
        WatchStack x = on(60, board);
        for (int kind = 0; kind < 4; kind++) {
            int[][] none = {{kind, 2, 0, 0, 1}, {kind, -1, 0, 0, 1}, {kind, 5, 0, 0, 1}, {kind, 0, -1, 0, 1}, {kind, 0, 51, 0, 1},
                {kind, 0, 0, 2, 1}, {kind, 1, 0, 1, 1}, {kind, 0, 0, -1, 1}, {kind, 0, 0, 0, 0}, {kind, 0, 0, 0, -1},
                {kind, 0, 0, 0, 10}, {kind, MAX_VALUE, 0, 0, 1}, {kind, 0, MAX_VALUE, 0, 1}, {kind, 0, 0, MIN_VALUE, 1}};
            for (int[] a : none) s.due("inject " + kind, x.inject(a[0], a[1], a[2], a[3], a[4]), -2);
        }
        int[][] none = {{-1, 0, 0, 0, 1}, {6, 0, 0, 0, 1}, {MIN_VALUE, 0, 0, 0, 1}, {MAX_VALUE, 0, 0, 0, 1}, {4, 2, 0, 0, 1},
            {4, -1, 0, 0, 1}, {4, 0, -1, 0, 1}, {4, 0, 51, 0, 1}, {4, 0, 0, 1, 1}, {4, 0, 0, -1, 1}, {4, 0, 0, 0, 0},
            {4, 0, 0, 0, 10}, {5, 1, 0, 0, 0}, {5, -1, 0, 0, 0}, {5, 0, -1, 0, 0}, {5, 0, 200, 0, 0}, {5, 0, 0, 1, 0},
            {5, 0, 0, -1, 0}, {5, 0, 0, 0, 1}, {5, 0, 0, 0, -1}};
        for (int[] a : none) s.due("inject " + a[0], x.inject(a[0], a[1], a[2], a[3], a[4]), -2);
        s.due("acts", x.count(6), 0);
        s.due("without a BOARD", new WatchStack().inject(5, 0, 0, 0, 0), -2);
        for (int i = 0; i < 9; i++) x.inject(4, 0, 50, 0, 1);
        s.due("the tenth", x.inject(4, 0, 50, 0, 1), 0);
        s.due("the eleventh", x.inject(4, 0, 0, 0, 1), -5);
        s.due("-2 ahead of -5", x.inject(4, 2, 0, 0, 1), -2);
        s.due("acts", x.count(6), 10);
        s.due("RECORDS", x.faults(60), 0);
        s.due("undo", x.undo(), 9);
        s.due("the tenth again", x.inject(4, 0, 0, 0, 1), 1);
        s.due("the eleventh", x.inject(4, 0, 1, 0, 1), -5);
        s.due("anew", x.anew(), 10);
        s.due("the first", x.inject(4, 0, 1, 0, 1), 1);
        // eight that were told are no acts
        String eight = board;
        for (int i = 0; i < 8; i++) eight += "wrong 0 job 50 times 1;";
        WatchStack full = on(60, eight);
        for (int i = 0; i < 10; i++) s.due("act " + i, full.inject(4, 0, 0, 0, 1), 1);
        s.due("the eleventh", full.inject(4, 0, 0, 0, 1), -5);
    }

    private void undo() {
        s.says("Promise 52", "The latest act is taken back: how many there are. -2: there is no BOARD; -5: there is none.");
        s.due("without a BOARD", new WatchStack().undo(), -2);
        WatchStack x = on(60, task(10, 0, 30) + "node 2;wrong 0 job 0 times 1;");
        s.due("what was told is no act", x.undo(), -5);
        s.due("inject", x.inject(4, 0, 2, 0, 1), 2);
        s.due("inject", x.inject(5, 0, 49, 0, 0), 3);
        s.due("undo", x.undo(), 1);
        s.due("RECORDS", x.faults(60), 2);
        s.due("the first act stays", x.injection(1, 0), 4);
        s.due("the latest is gone", x.injection(2, 0), -2);
        s.due("undo", x.undo(), 0);
        s.due("RECORDS", x.faults(60), 1);
        s.due("undo", x.undo(), -5);
        s.due("what was told stays", x.count(5), 1);
        for (int i = 0; i < 10; i++) x.inject(4, 0, 50, 0, 1);
        for (int i = 9; i >= 0; i--) s.due("undo", x.undo(), i);
        s.due("undo", x.undo(), -5);
    }

    private void anew() {
        s.says("Promise 53", "All are: how many there were. -2 likewise.");
        s.due("without a BOARD", new WatchStack().anew(), -2);
        WatchStack x = on(60, task(10, 0, 30) + "node 2;wrong 0 job 0 times 1;");
        s.due("there were none", x.anew(), 0);
        s.due("inject", x.inject(4, 0, 2, 0, 1), 2);
        s.due("inject", x.inject(4, 0, 3, 0, 1), 3);
        s.due("anew", x.anew(), 2);
        s.due("RECORDS", x.faults(60), 1);
        s.due("acts", x.count(6), 0);
        s.due("what was told stays", x.injection(0, 0), 4);
        s.due("no act", x.injection(1, 0), -2);
        s.due("undo", x.undo(), -5);
        s.due("anew", x.anew(), 0);
        for (int i = 0; i < 10; i++) x.inject(4, 0, 50, 0, 1);
        s.due("anew", x.anew(), 10);
    }

    private void image() {
        s.says("Promise 55", "IMAGE k (0 .. 2) keeps the BOARD, and acts: 0. -2: no such k.");
        WatchStack x = on(60, task(10, 0, 30) + "node 2;wrong 0 job 0 times 1;");
        for (int k : new int[] {-1, 3, MIN_VALUE, MAX_VALUE}) s.due("image " + k, x.image(k), -2);
        for (int k = 0; k < 3; k++) {
            s.due("inject", x.inject(4, 0, 1 + k, 0, 1), 2 + k);
            s.due("image " + k, x.image(k), 0);
        }
        s.due("nothing changes by it", x.faults(60), 4);
        s.due("nothing changes by it", x.count(6), 3);
        // each of its own, whatever comes behind it
        s.due("anew", x.anew(), 3);
        Check.feed(x, Texts.board(20, 10, 3));
        s.due("another BOARD", x.board(), 2);
        for (int k = 0; k < 3; k++) {
            s.due("back " + k, x.back(k), 0);
            s.due("acts", x.count(6), k + 1);
            s.due("RECORDS", x.faults(60), k + 2);
            s.due("the BOARD", x.count(0), 60);
            s.due("the act", x.injection(k + 1, 2), k + 1);
        }
        // kept once more: in place of what it had
        s.due("undo", x.undo(), 2);
        s.due("image 0", x.image(0), 0);
        s.due("anew", x.anew(), 2);
        s.due("back 0", x.back(0), 0);
        s.due("acts", x.count(6), 2);
        s.due("back 1", x.back(1), 0);
        s.due("acts", x.count(6), 2);
        s.due("back 2", x.back(2), 0);
        s.due("acts", x.count(6), 3);
        s.due("without a BOARD", new WatchStack().image(0), 0);
        s.due("no such k without a BOARD", new WatchStack().image(3), -2);
    }

    private void back() {
        s.says("Promise 56", "It is as IMAGE k has it: 0. -2: no such k; -6: it has nothing.");
        WatchStack x = on(60, task(10, 0, 30) + "node 2;wrong 0 job 0 times 1;");
        for (int k : new int[] {-1, 3, MIN_VALUE, MAX_VALUE}) s.due("back " + k, x.back(k), -2);
        for (int k = 0; k < 3; k++) s.due("back " + k + " of nothing", x.back(k), -6);
        s.due("all is as it was", x.faults(60), 1);
        s.due("image 1", x.image(1), 0);
        s.due("back 0 of nothing", x.back(0), -6);
        s.due("back 2 of nothing", x.back(2), -6);
        s.due("inject", x.inject(4, 0, 1, 0, 1), 2);
        s.due("longest", x.longest(0, 2), 1);
        Check.feed(x, "board ticks 7;");
        s.due("a FAULT", x.board(), -4);
        Check.feed(x, "abc");
        s.due("back 1", x.back(1), 0);
        s.due("no acts", x.count(6), 0);
        s.due("RECORDS", x.faults(60), 1);
        s.due("undo", x.undo(), -5);
        s.due("the TAPE stays", x.count(8), 3);
        s.due("the latest FAULT stays", x.fault(0), 2);
        s.due("back 1 again", x.back(1), 0);
        // acts of an IMAGE can be taken back
        s.due("inject", x.inject(4, 0, 2, 0, 1), 2);
        s.due("inject", x.inject(4, 0, 3, 0, 1), 3);
        s.due("image 2", x.image(2), 0);
        s.due("back 1", x.back(1), 0);
        s.due("back 2", x.back(2), 0);
        s.due("undo", x.undo(), 1);
        s.due("RECORDS", x.faults(60), 2);
        // an IMAGE of none: there is none again
        WatchStack bare = new WatchStack();
        s.due("image of none", bare.image(1), 0);
        Check.feed(bare, Texts.board(20, 10, 0));
        s.due("board()", bare.board(), 2);
        s.due("back to none", bare.back(1), 0);
        s.due("there is none", bare.lawful(), -2);
        s.due("there is none", bare.count(7), 0);
    }

    private void calls() {
        s.says("What it is", "An object is used for at most 512 calls after it has been made; what later calls answer is free.");
        WatchStack x = new WatchStack();
        int calls = 0;
        String text = Texts.board(200, 5, 9) + Texts.wide(4) + "node 1;wrong 0 job 0 times 1;";
        for (int i = 0; i < text.length(); i += 4, calls++) {
            int word = 0;
            for (int k = 0; k < 4; k++) word = word << 8 | (i + k < text.length() ? text.charAt(i + k) : ' ');
            s.due("feed", x.feed(word, 0, 0, 0, 0), i + 20);
            s.due("end", x.end(i + 4), i + 4);
            calls++;
        }
        s.due("board()", x.board(), 5);
        for (calls++; calls < 510; calls += 2) {
            s.due("inject", x.inject(4, 0, 3, 0, 1), 2);
            s.due("undo", x.undo(), 0);
        }
        s.due("longest", x.longest(0, 4), 0);
        s.due("the last call", x.silent(0, 4), 0);
    }
}
