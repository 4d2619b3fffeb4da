/** Promises 1 to 9 and 54: the tape, the reading of a board, what it was told. */
public final class ReadingTest {
    private static final Check CHECK = new Check();
    private static final String SMALL = "board ticks 20 cycle 5 low 0;";
    private static final String TASK = "task under 0 period 4 open 0 close 1 least 0 most 0;";

    public static void main(String[] args) {
        aNewObject();
        feedAndEnd();
        theBoard();
        tokensOfABoard();
        firstLines();
        numbers();
        watchersAndTasks();
        nodes();
        injections();
        tooMany();
        withoutNode();
        whatWasTold();
        CHECK.end("ReadingTest");
    }

    private static void due(String call, long got, long want) {
        CHECK.due(call, got, want);
    }

    /** A text that is refused, with its fault and place. */
    private static void flaw(String text, int fault, int place) {
        WatchStack x = new WatchStack();
        Check.feed(x, text);
        due("board() of '" + text + "'", x.board(), -4);
        due("fault(0) of '" + text + "'", x.fault(0), fault);
        due("fault(1) of '" + text + "'", x.fault(1), place);
        due("count(7)", x.count(7), 0);
        due("count(8)", x.count(8), 0);
    }

    private static void sound(String text, int lines) {
        WatchStack x = new WatchStack();
        Check.feed(x, text);
        due("board() of '" + text + "'", x.board(), lines);
        due("fault(0)", x.fault(0), 0);
        due("fault(1)", x.fault(1), -1);
        due("count(7)", x.count(7), lines);
    }

    // promise 1
    private static void aNewObject() {
        WatchStack x = new WatchStack();
        for (int what = 0; what <= 8; what++) due("count " + what, x.count(what), 0);
        due("lawful", x.lawful(), -2);
        due("halts", x.halts(), -2);
        due("fault 0", x.fault(0), 0);
        due("fault 1", x.fault(1), -1);
        due("orders", x.orders(), -2);
        due("idle", x.idle(0), -2);
        due("sleeps", x.sleeps(0, 0), -2);
        due("kicks", x.kicks(0, 0), -2);
        due("gap", x.gap(0, 0), -2);
        due("with", x.with(0, 1, 2), -2);
        due("inject", x.inject(0, 0, 0, 0, 1), -2);
        due("mean", x.mean(0, 0), -2);
    }

    // promises 2 and 3
    private static void feedAndEnd() {
        WatchStack x = new WatchStack();
        due("end(0)", x.end(0), 0);
        due("end(1)", x.end(1), -1);
        for (int i = 1; i <= 50; i++) due("feed " + i, x.feed(i, -1, 0, 7, 1 << 31), 20 * i);
        due("feed 51", x.feed(0, 0, 0, 0, 0), -1);
        due("count(8)", x.count(8), 1000);
        due("end(1001)", x.end(1001), -1);
        due("end(-1)", x.end(-1), -1);
        due("count(8)", x.count(8), 1000);
        due("end(1000)", x.end(1000), 1000);
        due("end(981)", x.end(981), 981);
        due("feed", x.feed(0, 0, 0, 0, 0), -1);
        due("end(980)", x.end(980), 980);
        due("feed", x.feed(0, 0, 0, 0, 0), 1000);
        due("end(5)", x.end(5), 5);
        due("end(6)", x.end(6), -1);
        due("feed", x.feed(0, 0, 0, 0, 0), 25);
        // four bytes of each number, the highest first: blanks, then a byte that is no token
        x.end(0);
        x.feed(0x20202020, 0x200a2020, 0x20208020, 0x3b3b3b3b, 0x41414141);
        due("board()", x.board(), -4);
        due("fault(0)", x.fault(0), 1);
        due("fault(1)", x.fault(1), 10);
    }

    // promise 4
    private static void theBoard() {
        WatchStack x = new WatchStack();
        Check.feed(x, SMALL + "watcher root;" + TASK + "node 1;");
        due("count(8)", x.count(8), 101);
        due("board()", x.board(), 4);
        due("count(8)", x.count(8), 0);
        due("inject", x.inject(4, 0, 0, 0, 1), x.faults(20));
        due("acts", x.count(6), 1);
        Check.feed(x, "board ticks 19");
        due("board() with a fault", x.board(), -4);
        due("the tape is empty", x.count(8), 0);
        due("lines stay", x.count(7), 4);
        due("acts stay", x.count(6), 1);
        due("fault(0)", x.fault(0), 2);
        Check.feed(x, "board ticks 30 cycle 6 low 1;");
        due("another board()", x.board(), 1);
        due("no acts", x.count(6), 0);
        due("no tasks", x.count(4), 0);
        due("H", x.count(0), 30);
        due("lawful", x.lawful(), 0);
        due("board() of nothing", x.board(), 0);
        due("no board", x.lawful(), -2);
        due("no H", x.count(0), 0);
        Check.feed(x, " \n  ");
        due("board() of blanks", x.board(), 0);
        due("fault(0)", x.fault(0), 0);
        // promise 5
        due("fault(2)", x.fault(2), -1);
        due("fault(-1)", x.fault(-1), -1);
        flaw("board", 1, 5);
        flaw("board ticks 200 cycle 5 low 0", 1, 29);
        flaw("board ticks 200 cycle 5 low 0  \n", 1, 32);
    }

    private static void tokensOfABoard() {
        sound("board\nticks20cycle5low0 ; watcher\n\nroot;", 2);
        sound("board ticks 0020 cycle 000000000000000005 low 00;", 1);
        sound("boardticks20cycle5low0;".replace("dt", "d t"), 1);
        flaw("boardticks 20 cycle 5 low 0;", 1, 0);
        flaw("board ticks 2 0 cycle 5 low 0;", 2, 12);
        flaw("board ticks 20 0 cycle 5 low 0;", 1, 15);
        flaw("boardz ticks 20 cycle 5 low 0;", 1, 0);
        flaw("board aticksz 20 cycle 5 low 0;", 1, 6);
        flaw("Board ticks 20 cycle 5 low 0;", 1, 0);
        flaw("board\tticks 20 cycle 5 low 0;", 1, 5);
        flaw("board\rticks 20 cycle 5 low 0;", 1, 5);
        flaw("board ticks 20 cycle 5 low 0.", 1, 28);
        flaw("board ticks -20 cycle 5 low 0;", 1, 12);
        flaw("board ticks 20 cycle 5 low 0;;", 1, 29);
        flaw("board ticks 99999999999999999999 cycle 5 low 0;", 2, 12);
        flaw("board ticks 4294967316 cycle 5 low 0;", 2, 12);
        flaw("board ticks " + (char) 233 + ";", 1, 12);
    }

    private static void firstLines() {
        flaw("node 1;", 1, 0);
        flaw("20", 1, 0);
        flaw(";", 1, 0);
        flaw("sleep 0 tick 1;" + SMALL, 1, 0);
        flaw(SMALL + SMALL, 1, 29);
        flaw(SMALL + "boards;", 1, 29);
        flaw(SMALL + "root;", 1, 29);
        flaw(SMALL + "7;", 1, 29);
        flaw("board cycle 5 ticks 20 low 0;", 1, 6);
        flaw("board ticks 20 cycle 5;", 1, 22);
    }

    private static void numbers() {
        sound("board ticks 20 cycle 50 low 9;", 1);
        sound("board ticks 200 cycle 5 low 0;", 1);
        flaw("board ticks 19 cycle 5 low 0;", 2, 12);
        flaw("board ticks 201 cycle 5 low 0;", 2, 12);
        flaw("board ticks 20 cycle 4 low 0;", 2, 21);
        flaw("board ticks 20 cycle 51 low 0;", 2, 21);
        flaw("board ticks 20 cycle 5 low 10;", 2, 27);
    }

    private static void watchersAndTasks() {
        String root = SMALL + "watcher root;";
        flaw(SMALL + "watcher under 0;", 1, 37);
        flaw(root + "watcher root;", 1, 50);
        flaw(root + "watcher under 1;", 2, 56);
        sound(root + "watcher under 0;watcher under 1;", 4);
        flaw(SMALL + "task under 0", 2, 40);
        flaw(root + "task under 1", 2, 53);
        sound(root + "task under 0 period 4 open 99 close 120 least 20 most 20;node 9;", 4);
        sound(root + "task under 0 period 60 open 0 close 1 least 0 most 40;node 9;", 4);
        flaw(root + "task under 0 period 3", 2, 62);
        flaw(root + "task under 0 period 61", 2, 62);
        flaw(root + "task under 0 period 4 open 100", 2, 69);
        flaw(root + "task under 0 period 4 open 7 close 7", 2, 77);
        flaw(root + "task under 0 period 4 open 7 close 121", 2, 77);
        flaw(root + "task under 0 period 4 open 7 close 8 least 21", 2, 85);
        flaw(root + "task under 0 period 4 open 7 close 8 least 2 most 1", 2, 92);
        flaw(root + "task under 0 period 4 open 7 close 8 least 2 most 41", 2, 92);
        flaw(root + "task under 0 open 4", 1, 55);
    }

    private static void nodes() {
        String root = SMALL + "watcher root;";
        String task = root + TASK;
        flaw(root + "node 1;", 1, 42);
        flaw(task + "node 0;", 2, 99);
        flaw(task + "node 10;", 2, 99);
        flaw(task + "node 1 after 0;", 1, 101);
        flaw(task + "node 1;node 1;", 1, 107);
        flaw(task + "node 1;node 1 after;", 1, 113);
        flaw(task + "node 1;node 1 after 1;", 2, 114);
        flaw(task + "node 1;node 1 after 0 0;", 2, 116);
        flaw(task + "node 1;node 1 after 0;node 1 after 1 0 1;", 2, 133);
        sound(task + "node 1;node 1 after 0;node 1 after 1 0;", 6);
        sound(task + "node 1;" + TASK + "node 1;node 1 after 0;", 7);
        // the second task has no node 1 of its own yet
        flaw(task + "node 1;node 1 after 0;" + TASK + "node 1;node 1 after 1;", 2, 188);
    }

    private static void injections() {
        String task = SMALL + "watcher root;" + TASK;
        String node = task + "node 1;";
        flaw(task + "hang 0", 2, 99);
        flaw(node + "hang 1", 2, 106);
        flaw(node + "hang job", 1, 106);
        flaw(node + "hang 0 node 0", 1, 108);
        flaw(node + "stop 0 job 51", 2, 112);
        flaw(node + "skip 0 job 50 node 1", 2, 120);
        flaw(node + "slow 0 job 50 node 0 times 0", 2, 128);
        flaw(node + "slow 0 job 50 node 0 times 10", 2, 128);
        sound(node + "slow 0 job 50 node 0 times 9;hang 0 job 0 node 0 times 1;stop 0 job 1 node 0 times 1;"
                + "skip 0 job 2 node 0 times 2;wrong 0 job 50 times 9;sleep 0 tick 199;", 10);
        flaw(node + "wrong 0 job 1 node 0", 1, 115);
        flaw(node + "wrong 0 job 1 times 10", 2, 121);
        flaw(SMALL + "sleep 0", 2, 35);
        flaw(node + "sleep 1", 2, 107);
        flaw(node + "sleep 0 tick 200", 2, 114);
        flaw(node + "sleep 0 job 2", 1, 109);
        // a task with a node, but not this one; the latest task still without
        flaw(node + TASK + "hang 1 job 0 node 0 times 1;node 1;", 2, 158);
        sound(node + TASK + "hang 0 job 0 node 0 times 1;node 1;", 7);
        flaw(node + "hang 0 job 0 node 1 times 1;node 1 after 0;", 2, 119);
        sound(node + "hang 0 job 0 node 0 times 1;node 1 after 0;", 6);
    }

    private static void tooMany() {
        String three = SMALL + "watcher root;watcher under 0;watcher under 0;";
        flaw(three + "watcher root;", 3, 74);
        flaw(three + "watcher", 3, 74);
        String five = three;
        for (int i = 0; i < 5; i++) five += TASK + "node 1;";
        sound(five, 14);
        flaw(five + "task;", 3, five.length());
        String six = three + TASK + "node 1;node 1 after 0;node 1 after 0;node 1 after 0;node 1 after 0;node 1 after 0;";
        sound(six, 11);
        flaw(six + "node 1 after 0;", 3, six.length());
        sound(six + TASK + "node 1;", 13);
        String eight = three;
        for (int i = 0; i < 8; i++) eight += "sleep 0 tick 1;";
        sound(eight, 12);
        flaw(eight + "sleep 9", 3, eight.length());
        flaw(eight + "wrong 0 job 0 times 1;", 3, eight.length());
        flaw(eight + "hello", 1, eight.length());
    }

    private static void withoutNode() {
        String root = SMALL + "watcher root;";
        flaw(root + TASK, 4, 0);
        flaw(root + TASK + "node 1;" + TASK + TASK, 4, 1);
        flaw(root + TASK + TASK + "node 1;", 4, 0);
        flaw(root + TASK + TASK + "node 0;", 2, root.length() + 2 * TASK.length() + 5);
    }

    // promises 6 to 9 and 54
    private static void whatWasTold() {
        WatchStack x = Check.on("board ticks 77 cycle 11 low 4;watcher root;watcher under 0;watcher under 1;"
                + "task under 2 period 6 open 3 close 9 least 1 most 2;node 1;node 2 after 0;node 3 after 0 1;"
                + "task under 0 period 60 open 0 close 1 least 0 most 0;node 9;"
                + "hang 0 job 5 node 2 times 3;stop 0 job 6 node 1 times 4;skip 1 job 50 node 0 times 9;"
                + "slow 0 job 0 node 0 times 1;wrong 1 job 2 times 8;sleep 2 tick 199;");
        int[] counts = {77, 11, 4, 3, 2, 6, 0, 16, 0};
        for (int what = 0; what < 9; what++) due("count " + what, x.count(what), counts[what]);
        due("count -1", x.count(-1), -1);
        due("count 9", x.count(9), -1);
        int[] traits = {2, 6, 3, 9, 1, 2, 3};
        for (int what = 0; what < 7; what++) due("task 0 " + what, x.task(0, what), traits[what]);
        due("task 1 1", x.task(1, 1), 60);
        due("task 1 6", x.task(1, 6), 1);
        due("task 2 0", x.task(2, 0), -2);
        due("task -1 0", x.task(-1, 0), -2);
        due("task 0 7", x.task(0, 7), -2);
        due("task 0 -1", x.task(0, -1), -2);
        due("node 0 0 1", x.node(0, 0, 1), 6);
        due("node 0 1 1", x.node(0, 1, 1), 4);
        due("node 0 2 1", x.node(0, 2, 1), 0);
        due("node 0 2 0", x.node(0, 2, 0), 3);
        due("node 1 0 0", x.node(1, 0, 0), 9);
        due("node 1 1 0", x.node(1, 1, 0), -2);
        due("node 2 0 0", x.node(2, 0, 0), -2);
        due("node 0 -1 0", x.node(0, -1, 0), -2);
        due("node 0 0 2", x.node(0, 0, 2), -2);
        due("node 0 0 -1", x.node(0, 0, -1), -2);
        due("watcher 0", x.watcher(0), -1);
        due("watcher 1", x.watcher(1), 0);
        due("watcher 2", x.watcher(2), 1);
        due("watcher 3", x.watcher(3), -2);
        due("watcher -1", x.watcher(-1), -2);
        int[][] told = {{0, 0, 5, 2, 3}, {1, 0, 6, 1, 4}, {2, 1, 50, 0, 9}, {3, 0, 0, 0, 1}, {4, 1, 2, -1, 8},
            {5, 2, 199, -1, -1}};
        for (int i = 0; i < 6; i++) {
            for (int what = 0; what < 5; what++) due("injection " + i + " " + what, x.injection(i, what), told[i][what]);
        }
        due("injection 6", x.injection(6, 0), -2);
        due("injection -1", x.injection(-1, 0), -2);
        due("injection what 5", x.injection(0, 5), -2);
        due("injection what -1", x.injection(0, -1), -2);
        x.inject(5, 1, 0, 0, 0);
        due("an act behind", x.injection(6, 0), 5);
        due("its watcher", x.injection(6, 1), 1);
        due("its X", x.injection(6, 2), 0);
        due("its K", x.injection(6, 3), -1);
        due("its M", x.injection(6, 4), -1);
        due("told", x.count(5), 6);
        due("acts", x.count(6), 1);
    }
}
