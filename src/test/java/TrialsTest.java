/** Promises 43 to 53, 55 and 56: what would be otherwise, acts and images. */
public final class TrialsTest {
    private static final Check CHECK = new Check();

    public static void main(String[] args) {
        caught();
        caughtOfSleeps();
        withoutAndBlame();
        windows();
        probes();
        fullBoard();
        sleepLeft();
        acts();
        actsRefused();
        images();
        CHECK.end("TrialsTest");
    }

    private static void due(String call, long got, long want) {
        CHECK.due(call, got, want);
    }

    private static String board(int h, int y, int n) {
        return "board ticks " + h + " cycle " + y + " low " + n + ";watcher root;";
    }

    private static String task(int p, int a, int b) {
        return "task under 0 period " + p + " open " + a + " close " + b + " least 0 most 40;";
    }

    // promise 43
    private static void caught() {
        WatchStack x = Check.on(board(60, 50, 0) + task(10, 0, 30) + "node 2;" + task(10, 0, 30) + "node 2;"
                + "wrong 0 job 1 times 1;wrong 1 job 2 times 1;slow 0 job 1 node 0 times 1;slow 0 job 3 node 0 times 1;"
                + "wrong 0 job 50 times 1;hang 1 job 5 node 0 times 1;");
        // task 0: job 1 begins at 10, slow till 13; task 1: job 2 begins at 20, ends at 23
        due("records", x.faults(60), 2);
        due("caught 0", x.caught(0), 3);
        due("caught 1", x.caught(1), 3);
        due("masked or not, its task has a record", x.caught(2), 3);
        due("no record behind", x.caught(3), -1);
        due("never sets in", x.caught(4), -1);
        due("sets in, not caught till the end", x.caught(5), -1);
        due("caught 6", x.caught(6), -2);
        due("caught -1", x.caught(-1), -2);
    }

    private static void caughtOfSleeps() {
        String text = "board ticks 60 cycle 10 low 0;watcher root;watcher under 0;task under 0 period 10 open 0 close 30"
                + " least 0 most 40;node 1;";
        WatchStack x = Check.on(text + "sleep 1 tick 5;sleep 0 tick 19;sleep 1 tick 10;sleep 1 tick 199;wrong 0 job 0 times 1;");
        // 0 looks at 9: SLEEP of 1; at 19 neither looks: the dog
        due("records", x.faults(60), 3);
        due("caught 0", x.caught(0), 4);
        due("the dog's for watcher 0", x.caught(1), 0);
        due("not the dog's for watcher 1", x.caught(2), -1);
        due("behind H", x.caught(3), -1);
        due("not a task's record for watcher 0", Check.on(text + "sleep 0 tick 55;wrong 0 job 5 times 1;sleep 0 tick 58;")
                .caught(0), 4);
        due("caught of a task", x.caught(4), 0);
    }

    // promises 44, 45
    private static void withoutAndBlame() {
        WatchStack x = Check.on(board(60, 50, 0) + task(10, 0, 30) + "node 2;" + task(10, 0, 30) + "node 2;"
                + "slow 0 job 1 node 0 times 1;wrong 0 job 1 times 1;wrong 1 job 2 times 2;wrong 1 job 3 times 2;");
        due("records", x.faults(60), 4);
        due("without 0", x.without(0), 4);
        due("without 1", x.without(1), 3);
        due("without 2", x.without(2), 3);
        due("without 3", x.without(3), 3);
        due("the first of several", x.blame(), 1);
        due("without 4", x.without(4), -2);
        due("without -1", x.without(-1), -2);
        due("an act", x.inject(4, 0, 0, 0, 1), 5);
        due("without 4", x.without(4), 4);
        due("blame", x.blame(), 1);
        due("nothing is changed", x.faults(60), 5);
        due("undo", x.undo(), 0);
        WatchStack none = Check.on(board(60, 50, 0) + task(10, 0, 30) + "node 2;wrong 0 job 50 times 1;");
        due("blame none", none.blame(), -1);
        due("an act", none.inject(4, 0, 0, 0, 1), 1);
        due("blame the act", none.blame(), 1);
        due("blame without a board", new WatchStack().blame(), -2);
        // without it there would be more
        WatchStack more = Check.on(board(60, 50, 0) + task(10, 9, 30) + "node 2;slow 0 job 1 node 0 times 1;"
                + "slow 0 job 2 node 0 times 4;");
        due("records", more.faults(60), 0);
        due("without 1", more.without(1), 1);
        due("blame", more.blame(), -1);
    }

    // promises 46 to 48
    private static void windows() {
        WatchStack x = Check.on(board(60, 50, 0) + task(10, 5, 20) + "node 2;");
        due("with as it is", x.with(0, 5, 20), 0);
        // a gap of 10: with A 11 every second kick is early: 11, 31, 51
        due("with 0 11 20", x.with(0, 11, 20), 3);
        // LATE at 11 behind a kick at 1: with B 9 at 10, 30, 50
        due("with 0 0 9", x.with(0, 0, 9), 3);
        due("with 0 10 11", x.with(0, 10, 11), 0);
        due("with 0 0 1", x.with(0, 0, 1), 6);
        due("with 0 99 120", x.with(0, 99, 120), 3);
        due("tight", x.tight(0), 10);
        due("loose", x.loose(0), 10);
        due("as it was", x.task(0, 2), 5);
        due("with a -1", x.with(0, -1, 20), -2);
        due("with a 100", x.with(0, 100, 120), -2);
        due("with b = a", x.with(0, 7, 7), -2);
        due("with b 121", x.with(0, 7, 121), -2);
        due("with task 1", x.with(1, 7, 8), -2);
        due("tight 1", x.tight(1), -2);
        due("tight -1", x.tight(-1), -2);
        due("loose 1", x.loose(1), -2);
        due("loose -1", x.loose(-1), -2);
        WatchStack far = Check.on(board(20, 20, 0) + task(20, 0, 120) + "node 2;");
        due("tight of one kick", far.tight(0), 19);
        due("loose up to 99", far.loose(0), 99);
        WatchStack bad = Check.on(board(60, 50, 0) + task(10, 5, 6) + "node 9;");
        due("tight at least A and 1", bad.tight(0), 6);
        due("loose below B", bad.loose(0), 5);
    }

    // promises 49, 50
    private static void probes() {
        WatchStack x = Check.on(board(60, 50, 0) + task(10, 8, 12) + "node 2;node 3 after 0;");
        due("hang", x.longest(0, 0), 11);
        due("hang silent", x.silent(0, 0), 0);
        due("stop", x.longest(0, 1), 11);
        due("skip", x.longest(0, 2), 1);
        due("skip silent", x.silent(0, 2), 6);
        due("slow", x.longest(0, 3), 14);
        due("wrong", x.longest(0, 4), 4);
        due("wrong silent", x.silent(0, 4), 0);
        due("nothing is changed", x.faults(60), 0);
        due("no acts", x.count(6), 0);
        due("kind 5", x.longest(0, 5), -2);
        due("kind -1", x.longest(0, -1), -2);
        due("task 1", x.longest(1, 0), -2);
        due("silent kind 5", x.silent(0, 5), -2);
        due("silent kind -1", x.silent(0, -1), -2);
        due("silent task -1", x.silent(-1, 0), -2);
        // behind all others: what is told first counts, so the hang of job 0 changes nothing
        WatchStack masked = Check.on(board(20, 20, 0) + task(20, 0, 120) + "node 2;slow 0 job 0 node 0 times 1;");
        due("masked", masked.longest(0, 0), -1);
        due("masked silent", masked.silent(0, 0), 1);
        // asked again behind an act and behind its taking back
        due("inject", x.inject(0, 0, 0, 0, 9), 3);
        due("hang all the same", x.longest(0, 2), 11);
        due("silent", x.silent(0, 2), 0);
        due("undo", x.undo(), 0);
        due("skip", x.longest(0, 2), 1);
        due("silent", x.silent(0, 2), 6);
        // each node of the task, on the job's way or not
        WatchStack two = Check.on(board(20, 20, 0) + task(10, 0, 10) + "node 1;node 1 after 0;node 1 after 0;");
        due("hang", two.longest(0, 0), 9);
        due("hang silent", two.silent(0, 0), 2);
        // with ten acts too
        for (int i = 0; i < 10; i++) x.inject(4, 0, 50, 0, 1);
        due("acts", x.count(6), 10);
        due("wrong", x.longest(0, 4), 4);
        due("silent", x.silent(0, 4), 0);
    }

    // as many injections as can be, and one more for the trial
    private static void fullBoard() {
        String text = board(60, 50, 0) + task(10, 0, 30) + "node 2;";
        for (int i = 0; i < 8; i++) text += "wrong 0 job 50 times 1;";
        WatchStack x = Check.on(text);
        for (int i = 0; i < 10; i++) due("inject", x.inject(0, 0, 49, 0, 1), 0);
        due("injection 17", x.injection(17, 2), 49);
        due("injection 18", x.injection(18, 2), -2);
        due("wrong", x.longest(0, 4), 1);
        due("wrong silent", x.silent(0, 4), 0);
        due("injection 17", x.injection(17, 2), 49);
        for (int i = 0; i < 18; i++) due("without " + i, x.without(i), 0);
    }

    // a second sleep of a watcher leaves the first one's waking
    private static void sleepLeft() {
        WatchStack x = Check.on("board ticks 40 cycle 10 low 0;watcher root;watcher under 0;sleep 1 tick 5;sleep 1 tick 15;");
        due("records", x.faults(40), 2);
        due("without 0", x.without(0), 1);
        due("without 1", x.without(1), 1);
        due("blame", x.blame(), 0);
        due("caught 1", x.caught(1), 4);
    }

    // promises 51 to 53
    private static void acts() {
        WatchStack x = Check.on(board(60, 50, 0) + task(10, 0, 30) + "node 2;node 1 after 0;");
        due("inject", x.inject(4, 0, 0, 0, 1), 1);
        due("inject", x.inject(4, 0, 1, 0, 1), 2);
        due("inject", x.inject(5, 0, 49, 0, 0), 3);
        due("acts", x.count(6), 3);
        due("records", x.faults(60), 3);
        due("undo", x.undo(), 2);
        due("records", x.faults(60), 2);
        due("anew", x.anew(), 2);
        due("records", x.faults(60), 0);
        due("anew", x.anew(), 0);
        due("undo", x.undo(), -5);
        due("undo without a board", new WatchStack().undo(), -2);
        due("anew without a board", new WatchStack().anew(), -2);
        for (int i = 0; i < 10; i++) due("inject " + i, x.inject(2, 0, i, 0, 1), Math.min(i + 1, 6));
        due("an eleventh", x.inject(2, 0, 0, 0, 1), -5);
        due("-2 ahead of -5", x.inject(2, 1, 0, 0, 1), -2);
        due("acts", x.count(6), 10);
        due("undo", x.undo(), 9);
        due("again", x.inject(0, 0, 0, 0, 1), x.faults(60));
        due("the tenth stands last", x.injection(9, 0), 0);
        // told ones stay
        WatchStack told = Check.on(board(60, 50, 0) + task(10, 0, 30) + "node 2;wrong 0 job 0 times 1;");
        due("undo", told.undo(), -5);
        due("inject", told.inject(4, 0, 3, 0, 1), 2);
        due("anew", told.anew(), 1);
        due("told", told.faults(60), 1);
        // an act stands behind what was told: the first told counts
        WatchStack first = Check.on(board(60, 50, 0) + task(10, 0, 30) + "node 2;slow 0 job 0 node 0 times 1;");
        due("hang behind slow", first.inject(0, 0, 0, 0, 1), 0);
    }

    private static void actsRefused() {
        WatchStack x = Check.on(board(60, 50, 0) + task(10, 0, 30) + "node 2;node 1 after 0;");
        int[][] none = {{-1, 0, 0, 0, 1}, {6, 0, 0, 0, 1}, {0, 1, 0, 0, 1}, {0, -1, 0, 0, 1}, {1, 0, -1, 0, 1},
            {1, 0, 51, 0, 1}, {2, 0, 0, 2, 1}, {2, 0, 0, -1, 1}, {3, 0, 0, 0, 0}, {3, 0, 0, 0, 10}, {4, 0, 0, 1, 1},
            {4, 0, 0, -1, 1}, {4, 0, 0, 0, 0}, {4, 1, 0, 0, 1}, {5, 1, 0, 0, 0}, {5, -1, 0, 0, 0}, {5, 0, -1, 0, 0},
            {5, 0, 200, 0, 0}, {5, 0, 0, 1, 0}, {5, 0, 0, 0, 1}};
        for (int[] a : none) due("inject " + a[0] + " " + a[1], x.inject(a[0], a[1], a[2], a[3], a[4]), -2);
        due("acts", x.count(6), 0);
        int[][] some = {{0, 0, 50, 1, 9}, {1, 0, 50, 0, 1}, {2, 0, 50, 1, 1}, {3, 0, 50, 1, 1}, {4, 0, 50, 0, 9},
            {5, 0, 199, 0, 0}};
        for (int[] a : some) due("inject " + a[0], x.inject(a[0], a[1], a[2], a[3], a[4]), 0);
        due("acts", x.count(6), 6);
    }

    // promises 55, 56
    private static void images() {
        WatchStack x = Check.on(board(60, 50, 0) + task(10, 0, 30) + "node 2;wrong 0 job 0 times 1;");
        due("back 0 of nothing", x.back(0), -6);
        due("back -1", x.back(-1), -2);
        due("back 3", x.back(3), -2);
        due("image -1", x.image(-1), -2);
        due("image 3", x.image(3), -2);
        due("inject", x.inject(4, 0, 2, 0, 1), 2);
        due("image 2", x.image(2), 0);
        due("inject", x.inject(4, 0, 4, 0, 1), 3);
        due("image 0", x.image(0), 0);
        Check.feed(x, board(20, 20, 0));
        due("another board", x.board(), 2);
        Check.feed(x, "board ticks 7");
        x.board();
        Check.feed(x, "abc");
        due("back 2", x.back(2), 0);
        due("records", x.faults(60), 2);
        due("acts", x.count(6), 1);
        due("the tape stays", x.count(8), 3);
        due("the latest fault stays", x.fault(0), 2);
        due("undo", x.undo(), 0);
        due("records", x.faults(60), 1);
        due("back 0", x.back(0), 0);
        due("records", x.faults(60), 3);
        due("longest", x.longest(0, 4), 1);
        due("back 2 again", x.back(2), 0);
        due("acts", x.count(6), 1);
        due("back 1 of nothing", x.back(1), -6);
        due("lines", x.count(7), 5);
        WatchStack bare = new WatchStack();
        due("image without a board", bare.image(1), 0);
        Check.feed(bare, board(20, 20, 0));
        due("board()", bare.board(), 2);
        due("back to none", bare.back(1), 0);
        due("no board", bare.lawful(), -2);
    }
}
