/** Promises 10 to 21: costs, ways, responses, orders, answers. */
public final class LawTest {
    private static final Check CHECK = new Check();
    private static final String HEAD = "board ticks 80 cycle 40 low 0;watcher root;";

    public static void main(String[] args) {
        costsAndWays();
        answers();
        responses();
        bounds();
        room();
        orders();
        withoutTasks();
        wrongInputs();
        CHECK.end("LawTest");
    }

    private static void due(String call, long got, long want) {
        CHECK.due(call, got, want);
    }

    private static String task(int p, int a, int b, int l, int m) {
        return "task under 0 period " + p + " open " + a + " close " + b + " least " + l + " most " + m + ";";
    }

    // promises 10, 11, 17
    private static void costsAndWays() {
        WatchStack x = Check.on(HEAD + task(60, 0, 120, 0, 40)
                + "node 2;node 3 after 0;node 4 after 0;node 1 after 1 2;node 9 after 0 3;"
                + task(60, 0, 120, 0, 40) + "node 1;node 1 after 0;node 1 after 0 1;node 1 after 0 1 2;"
                + "node 1 after 0 1 2 3;node 1 after 0 1 2 3 4;");
        due("cost 0 0", x.cost(0, 0), 11);
        due("cost 0 1", x.cost(0, 1), 16);
        due("ways 0", x.ways(0), 3);
        due("cost 1 0", x.cost(1, 0), 2);
        due("cost 1 1", x.cost(1, 1), 6);
        due("ways 1", x.ways(1), 16);
        // behind node 0 stand 1, 2 and 4: by the job's number modulo 3
        int[][] ways = {{0, 1, 3, 4, -1, -1}, {0, 2, 3, 4, -1, -1}, {0, 4, -1, -1, -1, -1}};
        for (int job = 0; job <= 50; job++) {
            for (int i = 0; i < 6; i++) due("path 0 " + job + " " + i, x.path(0, job, i), ways[job % 3][i]);
        }
        due("path far", x.path(0, 0, Integer.MAX_VALUE), -1);
        // node 0: 5 choices, node 1: 4, node 2: 3, node 3: 2
        int[] seventh = {0, 3, 5, -1};
        for (int i = 0; i < 4; i++) due("path 1 7", x.path(1, 7, i), seventh[i]);
        due("path 1 -1", x.path(1, 7, -1), -2);
        due("path job -1", x.path(1, -1, 0), -2);
        due("path job 51", x.path(1, 51, 0), -2);
        due("path task 2", x.path(2, 0, 0), -2);
    }

    // promises 18, 19
    private static void answers() {
        WatchStack x = Check.on(HEAD + task(60, 0, 120, 0, 40)
                + "node 1;node 1 after 0;node 1 after 0;node 1 after 0;node 1 after 2;");
        // from 15 behind node 0: 76 - 64 = 12; then 1: 62; 2 and 4: 63 and 0; 3: 0
        due("answer 0 0 15", x.answer(0, 0, 15), 62);
        due("answer 0 1 15", x.answer(0, 1, 15), 0);
        due("answer 0 2 15", x.answer(0, 2, 15), 0);
        due("answer 0 50 15", x.answer(0, 50, 15), 0);
        due("alike 0 15", x.alike(0, 15), 1);
        due("alike 0 14", x.alike(0, 14), 0);
        due("answer 0 0 0", x.answer(0, 0, 0), 7);
        due("alike 0 63", x.alike(0, 63), 1);
        due("answer 0 0 63", x.answer(0, 0, 63), (5 * ((5 * 63 + 1) % 64) + 2) % 64);
        due("answer -1", x.answer(0, 0, -1), -2);
        due("answer 64", x.answer(0, 0, 64), -2);
        due("answer job 51", x.answer(0, 51, 0), -2);
        due("answer job -1", x.answer(0, -1, 0), -2);
        due("answer task 1", x.answer(1, 0, 0), -2);
        due("alike -1", x.alike(0, -1), -2);
        due("alike 64", x.alike(0, 64), -2);
        due("alike task -1", x.alike(-1, 0), -2);
    }

    // promise 12, 20, 21
    private static void responses() {
        WatchStack x = Check.on(HEAD + task(10, 0, 120, 0, 40) + "node 4;" + task(12, 0, 120, 0, 40) + "node 5;"
                + task(30, 0, 120, 0, 40) + "node 3;" + task(60, 0, 120, 0, 40) + "node 9;node 9 after 0;");
        due("response 0", x.response(0), 4);
        due("response 1", x.response(1), 9);
        // 3 + 4 k + 5 l: 12 needs 3 + 8 + 5 = 16, 16: 3 + 8 + 10 = 21, 21: 3 + 12 + 10 = 25, 25: 3 + 12 + 15 = 30
        due("response 2", x.response(2), 30);
        due("response 3", x.response(3), -1);
        due("lawful", x.lawful(), 7);
        float load = 4 / 10f;
        load += 5 / 12f;
        load += 3 / 30f;
        load += 18 / 60f;
        due("load", x.load(), Float.floatToIntBits(load));
        due("least of none", x.least(3, 0), -1);
        due("least of none, another what", x.least(3, 4), -2);
        WatchStack just = Check.on(HEAD + task(4, 0, 120, 0, 40) + "node 4;");
        due("R = P", just.response(0), 4);
        due("load 1", just.load(), Float.floatToIntBits(1f));
        WatchStack over = Check.on(HEAD + task(4, 0, 120, 0, 40) + "node 5;");
        due("R over P", over.response(0), -1);
        due("lawful", over.lawful(), 0);
    }

    // promise 13
    private static void bounds() {
        WatchStack x = Check.on(HEAD + task(10, 0, 120, 0, 40) + "node 2;" + task(20, 15, 25, 1, 3)
                + "node 3;node 4 after 0;node 1 after 0;");
        due("least 1 0", x.least(1, 0), 15);
        due("least 1 1", x.least(1, 1), 25);
        due("least 1 2", x.least(1, 2), 1);
        due("least 1 3", x.least(1, 3), 3);
        due("lawful", x.lawful(), 3);
        String head = HEAD + task(10, 0, 120, 0, 40) + "node 2;";
        String nodes = "node 3;node 4 after 0;node 1 after 0;";
        due("A too great", Check.on(head + task(20, 16, 25, 1, 3) + nodes).lawful(), 1);
        due("B too small", Check.on(head + task(20, 15, 24, 1, 3) + nodes).lawful(), 1);
        due("L too great", Check.on(head + task(20, 15, 25, 2, 3) + nodes).lawful(), 1);
        due("M too small", Check.on(head + task(20, 15, 25, 1, 2) + nodes).lawful(), 1);
        // a cycle shorter than the spread: L is 0
        WatchStack low = Check.on("board ticks 80 cycle 5 low 0;watcher root;" + task(60, 0, 120, 0, 1)
                + "node 1;node 9 after 0;node 9 after 1;node 1 after 0;");
        due("SPREAD", low.least(0, 0), 60 - 17);
        due("L below 0", low.least(0, 2), 0);
        due("M", low.least(0, 3), 1);
        due("lawful", low.lawful(), 1);
        due("least task 1", low.least(1, 0), -2);
        due("least what -1", low.least(0, -1), -2);
        due("least what 4", low.least(0, 4), -2);
    }

    // promise 14
    private static void room() {
        WatchStack x = Check.on(HEAD + task(10, 8, 12, 4, 4) + "node 2;" + task(20, 15, 25, 1, 3)
                + "node 3;node 4 after 0;node 1 after 0;");
        // one unit more of task 0 makes task 1's R 10, and its spread 6
        due("room 0", x.room(0), 0);
        // task 1 with 8: 10, with 9: 13
        due("room 1", x.room(1), 1);
        due("response stays", x.response(1), 9);
        due("cost stays", x.cost(1, 1), 7);
        WatchStack free = Check.on(HEAD + task(60, 0, 120, 0, 40) + "node 1;");
        due("room 50", free.room(0), 50);
        WatchStack full = Check.on(HEAD + task(60, 0, 120, 0, 40) + "node 9;node 2 after 0;");
        due("room 49", full.room(0), 49);
        WatchStack none = Check.on(HEAD + task(10, 11, 12, 0, 40) + "node 9;");
        due("nothing lawful", none.lawful(), 0);
        due("room of it", none.room(0), 50);
        due("room -1", none.room(-1), -2);
        due("room 1", none.room(1), -2);
    }

    // promises 15, 16
    private static void orders() {
        // the long one ahead of the short one makes that unlawful, unless its window is wide
        WatchStack x = Check.on(HEAD + task(20, 10, 40, 0, 40) + "node 8;" + task(10, 10, 12, 0, 40) + "node 2;");
        due("orders", x.orders(), 1);
        due("order 0", x.order(0), 1);
        due("order 1", x.order(1), 0);
        due("order 2", x.order(2), -1);
        due("order -1", x.order(-1), -1);
        due("lawful", x.lawful(), 1);
        WatchStack all = Check.on(HEAD + task(60, 0, 120, 0, 40) + "node 1;" + task(60, 0, 120, 0, 40) + "node 1;"
                + task(60, 0, 120, 0, 40) + "node 1;" + task(60, 0, 120, 0, 40) + "node 1;"
                + task(60, 0, 120, 0, 40) + "node 1;");
        due("orders of five", all.orders(), 120);
        for (int i = 0; i < 5; i++) due("order " + i, all.order(i), i);
        WatchStack last = Check.on(HEAD + task(60, 56, 120, 0, 40) + "node 1;" + task(60, 59, 120, 0, 40) + "node 1;"
                + task(60, 60, 120, 0, 40) + "node 1;");
        due("orders of three", last.orders(), 1);
        due("first", last.order(0), 2);
        due("second", last.order(1), 1);
        due("third", last.order(2), 0);
        WatchStack none = Check.on(HEAD + task(10, 11, 12, 0, 40) + "node 9;");
        due("no orders", none.orders(), 0);
        due("no order", none.order(0), -1);
    }

    private static void withoutTasks() {
        WatchStack x = Check.on(HEAD);
        due("orders", x.orders(), 1);
        due("order", x.order(0), -1);
        due("lawful", x.lawful(), 0);
        due("load", x.load(), 0);
    }

    private static void wrongInputs() {
        WatchStack x = Check.on(HEAD + task(10, 0, 120, 0, 40) + "node 2;");
        due("cost 0 2", x.cost(0, 2), -2);
        due("cost 0 -1", x.cost(0, -1), -2);
        due("cost 1 0", x.cost(1, 0), -2);
        due("ways 1", x.ways(1), -2);
        due("ways -1", x.ways(-1), -2);
        due("response 1", x.response(1), -2);
        due("response -1", x.response(-1), -2);
        WatchStack bare = new WatchStack();
        due("order without a board", bare.order(0), -2);
        due("order -1 without a board", bare.order(-1), -2);
        due("load without a board", bare.load(), -2);
    }
}
