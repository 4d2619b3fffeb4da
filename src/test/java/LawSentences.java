import static java.lang.Integer.MAX_VALUE;
import static java.lang.Integer.MIN_VALUE;

/** Terms V (but MARGIN) and the promises 10 to 21, sentence by sentence. */
final class LawSentences {
    private static final int[] NO_TASK = {-1, 2, 5, MIN_VALUE, MAX_VALUE};
    private static final String FORK = "node 3;node 4 after 0;node 1 after 0;";

    private final Sentences s;

    LawSentences(Sentences s) {
        this.s = s;
    }

    void run() {
        costs();
        responses();
        spread();
        lawful();
        noneAhead();
        cost();
        ways();
        response();
        least();
        room();
        orders();
        order();
        path();
        answer();
        alike();
        lawfulBits();
        load();
    }

    private static WatchStack on(String tasks) {
        return Check.on(Texts.board(80, 40, 0) + tasks);
    }

    private static String task(int p, int a, int b, int l, int m) {
        return Texts.task(0, p, a, b, l, m);
    }

    // ------------------------------------------------------------ Terms V

    private void costs() {
        s.says("Terms", "LONGEST, SHORTEST of a TASK: units of NODES on a way from NODE 0 to an end, most, fewest.");
        WatchStack one = on(Texts.wide(60) + "node 9;" + Texts.wide(60) + "node 1;");
        s.due("SHORTEST of one NODE", one.cost(0, 0), 9);
        s.due("LONGEST of one NODE", one.cost(0, 1), 9);
        s.due("SHORTEST of one unit", one.cost(1, 0), 1);
        // 0 1 3 4: 2 + 3 + 1 + 9; 0 2 3 4: 2 + 4 + 1 + 9; 0 4: 2 + 9
        WatchStack x = on(Texts.wide(60) + "node 2;node 3 after 0;node 4 after 0;node 1 after 1 2;node 9 after 0 3;"
                + Texts.wide(60) + "node 9;node 9 after 0;node 9 after 1;node 9 after 2;node 9 after 3;node 9 after 4;");
        s.due("SHORTEST", x.cost(0, 0), 11);
        s.due("LONGEST", x.cost(0, 1), 16);
        s.due("SHORTEST of all six", x.cost(1, 0), 54);
        s.due("LONGEST of all six", x.cost(1, 1), 54);
        // two ends: the way with fewer NODES has more units
        WatchStack ends = on(Texts.wide(60) + "node 1;node 9 after 0;node 1 after 0;node 2 after 2;");
        s.due("SHORTEST", ends.cost(0, 0), 4);
        s.due("LONGEST", ends.cost(0, 1), 10);
    }

    private void responses() {
        s.says("Terms", "RESPONSE: the least R with R = LONGEST and, of each lesser TASK, R / its P (rounded up)"
                + " times its LONGEST, if R is P at most; else none.");
        s.due("R = P", on(Texts.wide(4) + "node 4;").response(0), 4);
        s.due("R is P and 1", on(Texts.wide(4) + "node 5;").response(0), -1);
        s.due("R = 60", on(Texts.wide(60) + "node 9;node 9 after 0;node 9 after 1;node 9 after 2;node 9 after 3;node 9 after 4;"
                + Texts.wide(60) + "node 6;").response(1), 60);
        s.due("R = 61", on(Texts.wide(60) + "node 9;node 9 after 0;node 9 after 1;node 9 after 2;node 9 after 3;node 9 after 4;"
                + Texts.wide(60) + "node 7;").response(1), -1);
        // 10 / 10 is 1: 4 + 6; with 7 it is 11, so twice: 15
        s.due("R just its P", on(Texts.wide(10) + "node 4;" + Texts.wide(20) + "node 6;").response(1), 10);
        s.due("R one behind", on(Texts.wide(10) + "node 4;" + Texts.wide(20) + "node 7;").response(1), 15);
        // 4 and 6 fit both: 2 + 2 * 1, 2 + 2 * 2
        s.due("the least", on(Texts.wide(4) + "node 2;" + Texts.wide(20) + "node 2;").response(1), 4);
        // 3 + 4 k + 5 l: 12, 16, 21, 25, 30 = 3 + 4 * 3 + 5 * 3
        WatchStack x = on(Texts.wide(10) + "node 4;" + Texts.wide(12) + "node 5;" + Texts.wide(30) + "node 3;"
                + Texts.wide(29) + "node 3;" + Texts.wide(60) + "node 1;");
        int[] all = {4, 9, 30, -1, -1};
        for (int t = 0; t < 5; t++) s.due("response " + t, x.response(t), all[t]);
        // greater ones don't count; lesser ones without R do
        WatchStack none = on(Texts.wide(4) + "node 5;" + Texts.wide(60) + "node 1;" + Texts.wide(60) + "node 9;");
        s.due("a lesser one takes all", none.response(1), -1);
        s.due("R without the greater", on(Texts.wide(60) + "node 1;" + Texts.wide(4) + "node 9;").response(0), 1);
        // 6 and 5 are above 10; 1 + 5 + 6 * 2 = 18
        WatchStack slow = on(Texts.wide(20) + "node 5;" + Texts.wide(10) + "node 6;" + Texts.wide(60) + "node 1;");
        s.due("a lesser one without R", slow.response(1), -1);
        s.due("R all the same", slow.response(2), 18);
    }

    private void spread() {
        s.says("Terms", "SPREAD: R less SHORTEST.");
        // R 9, SHORTEST 4
        WatchStack x = on(task(10, 8, 12, 4, 4) + "node 2;" + task(20, 15, 25, 1, 3) + FORK);
        s.due("P less SPREAD", x.least(1, 0), 15);
        s.due("P and SPREAD", x.least(1, 1), 25);
        s.due("P less SPREAD of 0", x.least(0, 0), 10);
        s.due("P and SPREAD of 0", x.least(0, 1), 10);
    }

    private void lawful() {
        s.says("Terms", "A TASK is LAWFUL, if it has R, A is not above P less SPREAD, B not below P and SPREAD,"
                + " L not above (Y less SPREAD) / P (cut; 0, if below 0), M not below (Y and SPREAD) / P (rounded up).");
        // LONGEST 5, SHORTEST 3, SPREAD 2, Y 40: A 8, B 12, L 38 / 10, M 42 / 10
        String nodes = "node 2;node 3 after 0;node 1 after 0;";
        s.due("each at its bound", on(task(10, 8, 12, 3, 5) + nodes).lawful(), 1);
        s.due("A one more", on(task(10, 9, 12, 3, 5) + nodes).lawful(), 0);
        s.due("B one less", on(task(10, 8, 11, 3, 5) + nodes).lawful(), 0);
        s.due("L one more", on(task(10, 8, 12, 4, 5) + nodes).lawful(), 0);
        s.due("M one less", on(task(10, 8, 12, 3, 4) + nodes).lawful(), 0);
        s.due("all wide", on(task(10, 0, 120, 0, 40) + nodes).lawful(), 1);
        s.due("no R", on(task(4, 0, 120, 0, 40) + nodes).lawful(), 0);
        // Y 42: 40 / 10 and 44 / 10; Y 48: 46 / 10 and 50 / 10; Y 41: 39 / 10 and 43 / 10
        int[][] bounds = {{42, 4, 5}, {48, 4, 5}, {41, 3, 5}, {49, 4, 6}, {38, 3, 4}, {12, 1, 2}, {11, 0, 2}, {8, 0, 1}};
        for (int[] b : bounds) {
            String head = Texts.board(80, b[0], 0);
            s.due("L at Y " + b[0], Check.on(head + task(10, 8, 12, b[1], 40) + nodes).lawful(), 1);
            s.due("L and 1 at Y " + b[0], Check.on(head + task(10, 8, 12, b[1] + 1, 40) + nodes).lawful(), 0);
            s.due("M at Y " + b[0], Check.on(head + task(10, 8, 12, 0, b[2]) + nodes).lawful(), 1);
            s.due("M less 1 at Y " + b[0], Check.on(head + task(10, 8, 12, 0, b[2] - 1) + nodes).lawful(), 0);
        }
        // SPREAD 17 is above Y 5: L 0; M 22 / 60 rounded up
        String chain = "node 1;node 9 after 0;node 9 after 1;node 1 after 0;";
        String low = Texts.board(80, 5, 0);
        s.due("L 0", Check.on(low + task(60, 43, 77, 0, 1) + chain).lawful(), 1);
        s.due("L 1", Check.on(low + task(60, 43, 77, 1, 1) + chain).lawful(), 0);
        s.due("M 0", Check.on(low + task(60, 43, 77, 0, 0) + chain).lawful(), 0);
        s.due("A 44", Check.on(low + task(60, 44, 77, 0, 1) + chain).lawful(), 0);
        s.due("B 76", Check.on(low + task(60, 43, 76, 0, 1) + chain).lawful(), 0);
        // SPREAD 0, P above Y: M 5 / 60 rounded up
        s.due("M 1", Check.on(low + task(60, 60, 61, 0, 1) + "node 1;").lawful(), 1);
        s.due("M 0", Check.on(low + task(60, 60, 61, 0, 0) + "node 1;").lawful(), 0);
    }

    private void noneAhead() {
        s.says("Terms", "-2 comes ahead of -5, where both fit and nothing else is told.");
        WatchStack x = on(Texts.wide(10) + "node 1;");
        for (int i = 0; i < 10; i++) x.inject(4, 0, 50, 0, 1);
        s.due("both fit", x.inject(4, 1, 50, 0, 1), -2);
        s.due("both fit", x.inject(6, 0, 50, 0, 1), -2);
        s.due("-5 alone", x.inject(4, 0, 50, 0, 1), -5);
        s.due("undo() without acts and BOARD", new WatchStack().undo(), -2);
    }

    // ------------------------------------------------------------ promises 10 to 21

    private void cost() {
        s.says("Promise 10", "SHORTEST (what 0), LONGEST (1) of a TASK. -2: there are none such.");
        WatchStack x = on(Texts.wide(10) + "node 1;" + Texts.wide(20) + FORK);
        s.due("cost(1, 0)", x.cost(1, 0), 4);
        s.due("cost(1, 1)", x.cost(1, 1), 7);
        for (int what : new int[] {-1, 2, MIN_VALUE, MAX_VALUE}) s.due("what " + what, x.cost(1, what), -2);
        for (int t : NO_TASK) {
            s.due("cost 0 of " + t, x.cost(t, 0), -2);
            s.due("cost 1 of " + t, x.cost(t, 1), -2);
        }
    }

    private void ways() {
        s.says("Promise 11", "How many ways it has from NODE 0 to an end. -2: there is none such.");
        WatchStack x = on(Texts.wide(60) + "node 1;" + Texts.wide(60) + "node 1;node 1 after 0;node 1 after 0 1;"
                + "node 1 after 0 1 2;node 1 after 0 1 2 3;node 1 after 0 1 2 3 4;");
        s.due("of one NODE", x.ways(0), 1);
        s.due("most", x.ways(1), 16);
        WatchStack two = on(Texts.wide(60) + "node 1;node 1 after 0;node 1 after 0;node 1 after 0;node 1 after 0;node 1 after 0;"
                + Texts.wide(60) + "node 1;node 1 after 0;node 1 after 0;node 1 after 1 2;node 1 after 3;node 1 after 3;");
        s.due("five ends", two.ways(0), 5);
        s.due("two and two", two.ways(1), 4);
        s.due("a chain", on(Texts.wide(60) + "node 1;node 1 after 0;node 1 after 1;").ways(0), 1);
        for (int t : NO_TASK) s.due("ways of " + t, x.ways(t), -2);
    }

    private void response() {
        s.says("Promise 12", "RESPONSE. NONE: none; -2 likewise.");
        WatchStack x = on(Texts.wide(4) + "node 4;" + Texts.wide(60) + "node 1;");
        s.due("response(0)", x.response(0), 4);
        s.due("response(1)", x.response(1), -1);
        for (int t : NO_TASK) s.due("response of " + t, x.response(t), -2);
    }

    private void least() {
        s.says("Promise 13", "What 0: the greatest A, 1: the least B, 2: the greatest L, 3: the least M"
                + " with which it would be LAWFUL (V). NONE: it has no RESPONSE; -2: there are none such.");
        String nodes = "node 2;node 3 after 0;node 1 after 0;";
        int[][] bounds = {{40, 3, 5}, {42, 4, 5}, {48, 4, 5}, {49, 4, 6}, {38, 3, 4}, {12, 1, 2}, {11, 0, 2}, {8, 0, 1}};
        for (int[] b : bounds) {
            WatchStack x = Check.on(Texts.board(80, b[0], 0) + task(10, 0, 120, 0, 40) + nodes);
            s.due("A", x.least(0, 0), 8);
            s.due("B", x.least(0, 1), 12);
            s.due("L at Y " + b[0], x.least(0, 2), b[1]);
            s.due("M at Y " + b[0], x.least(0, 3), b[2]);
        }
        WatchStack far = Check.on(Texts.board(80, 5, 0) + task(60, 0, 120, 0, 1)
                + "node 1;node 9 after 0;node 9 after 1;node 1 after 0;");
        s.due("L, if below 0", far.least(0, 2), 0);
        s.due("M", far.least(0, 3), 1);
        WatchStack x = on(task(4, 0, 120, 0, 40) + "node 4;" + task(60, 0, 120, 0, 40) + "node 1;");
        for (int what = 0; what < 4; what++) s.due("without RESPONSE", x.least(1, what), -1);
        s.due("A of R = P", x.least(0, 0), 4);
        for (int what : new int[] {-1, 4, MIN_VALUE, MAX_VALUE}) {
            s.due("what " + what, x.least(0, what), -2);
            s.due("what " + what + " without RESPONSE", x.least(1, what), -2);
        }
        for (int t : NO_TASK) s.due("least of " + t, x.least(t, 0), -2);
    }

    private void room() {
        s.says("Promise 14", "By how many units (0 .. 50) NODE 0 of a TASK could have more, at most,"
                + " so that all that are LAWFUL now still are. -2: there is no such TASK.");
        // one unit more of 0 makes R of 1 ten: its SPREAD is 6 then; 1 itself may have one more (R 10), not two (R 13)
        WatchStack x = on(task(10, 8, 12, 4, 4) + "node 2;" + task(20, 15, 25, 1, 3) + FORK);
        s.due("room(0)", x.room(0), 0);
        s.due("room(1)", x.room(1), 1);
        s.due("all is as it was", x.cost(1, 1), 7);
        s.due("all is as it was", x.lawful(), 3);
        s.due("50", on(Texts.wide(60) + "node 1;").room(0), 50);
        s.due("50, R = P", on(Texts.wide(60) + "node 9;node 1 after 0;").room(0), 50);
        s.due("49", on(Texts.wide(60) + "node 9;node 2 after 0;").room(0), 49);
        s.due("R = P now", on(Texts.wide(4) + "node 4;").room(0), 0);
        // those that are not LAWFUL now don't count
        s.due("none is LAWFUL now", on(task(10, 11, 12, 0, 40) + "node 9;").room(0), 50);
        WatchStack other = on(task(10, 11, 12, 0, 40) + "node 1;" + Texts.wide(20) + "node 2;");
        s.due("the other is LAWFUL", other.lawful(), 2);
        s.due("room for the other", other.room(0), 8);
        s.due("room of the other", other.room(1), 16);
        for (int t : NO_TASK) s.due("room of " + t, x.room(t), -2);
    }

    private static final String LONG_FIRST = task(20, 10, 40, 0, 40) + "node 8;" + task(10, 10, 12, 0, 40) + "node 2;";

    private void orders() {
        s.says("Promise 15", "How many orders of all TASKS there are by which all are LAWFUL,"
                + " those ahead in the order being taken for lesser ones (1 without TASKS). -2: there is no BOARD.");
        s.due("1 without TASKS", on("").orders(), 1);
        s.due("without WATCHERS", Check.on("board ticks 20 cycle 5 low 0;").orders(), 1);
        s.due("-2", new WatchStack().orders(), -2);
        s.due("one TASK", on(Texts.wide(4) + "node 4;").orders(), 1);
        s.due("one TASK, not LAWFUL", on(Texts.wide(4) + "node 5;").orders(), 0);
        s.due("short one ahead", on(LONG_FIRST).orders(), 1);
        s.due("as they stand they are not", on(LONG_FIRST).lawful(), 1);
        String five = "";
        for (int t = 0; t < 5; t++) five += Texts.wide(60) + "node 1;";
        s.due("of five", on(five).orders(), 120);
        // the last of five has SPREAD 4: with A 60 it must be first, with A 57 it can't be last
        String bound = "";
        for (int a : new int[] {0, 0, 57, 60, 0}) bound += task(60, a, 120, 0, 40) + "node 1;";
        s.due("one first, one not last", on(bound).orders(), 18);
        s.due("two that must be first", on(task(60, 60, 120, 0, 40) + "node 1;" + task(60, 60, 120, 0, 40) + "node 1;").orders(), 0);
    }

    private void order() {
        s.says("Promise 16", "The first such order (by the TASK that is first in it, then by the second one, and so on):"
                + " its i-th TASK, from 0. NONE: there is none, no such i; -2 likewise.");
        WatchStack x = on(LONG_FIRST);
        s.due("order(0)", x.order(0), 1);
        s.due("order(1)", x.order(1), 0);
        for (int i : new int[] {-1, 2, 5, MIN_VALUE, MAX_VALUE}) s.due("order " + i, x.order(i), -1);
        String bound = "";
        for (int a : new int[] {0, 0, 57, 60, 0}) bound += task(60, a, 120, 0, 40) + "node 1;";
        WatchStack five = on(bound);
        int[] first = {3, 0, 1, 2, 4};
        for (int i = 0; i < 5; i++) s.due("order " + i, five.order(i), first[i]);
        // SPREAD is 0, 1, 2: with A 58 it may be last, with A 59 not
        WatchStack three = on(task(60, 0, 120, 0, 40) + "node 1;" + task(60, 58, 120, 0, 40) + "node 1;"
                + task(60, 59, 120, 0, 40) + "node 1;");
        s.due("orders", three.orders(), 4);
        int[] ofThree = {0, 2, 1};
        for (int i = 0; i < 3; i++) s.due("order " + i, three.order(i), ofThree[i]);
        // each of five fits in one place alone: the last of all orders is the only one
        String back = "";
        for (int a = 56; a <= 60; a++) back += task(60, a, 120, 0, 40) + "node 1;";
        WatchStack one = on(back);
        s.due("orders", one.orders(), 1);
        for (int i = 0; i < 5; i++) s.due("order " + i, one.order(i), 4 - i);
        s.due("there is none", on(Texts.wide(4) + "node 5;").order(0), -1);
        s.due("none without TASKS", on("").order(0), -1);
        for (int i : new int[] {-1, 0, MAX_VALUE}) s.due("without a BOARD", new WatchStack().order(i), -2);
    }

    private void path() {
        s.says("Promise 17", "The i-th NODE (from 0) of JOB job (0 .. 50) of a TASK, if nothing goes wrong."
                + " NONE: it has not so many; -2: there are none such, i is below 0.");
        String task = Texts.wide(60) + "node 2;node 3 after 0;node 4 after 0;node 1 after 1 2;node 9 after 0 3;";
        WatchStack x = on(task + Texts.wide(60) + "node 1;");
        int[][] ways = {{0, 1, 3, 4, -1}, {0, 2, 3, 4, -1}, {0, 4, -1, -1, -1}};
        for (int job : new int[] {0, 1, 2, 3, 4, 5, 47, 48, 49, 50}) {
            for (int i = 0; i < 5; i++) s.due("path " + job + " " + i, x.path(0, job, i), ways[job % 3][i]);
            s.due("one NODE", x.path(1, job, 0), 0);
            s.due("not so many", x.path(1, job, 1), -1);
            for (int i : new int[] {6, 7, MAX_VALUE}) s.due("far", x.path(0, job, i), -1);
            for (int i : new int[] {-1, MIN_VALUE}) s.due("below 0", x.path(0, job, i), -2);
        }
        for (int job : new int[] {-1, 51, MIN_VALUE, MAX_VALUE}) s.due("job " + job, x.path(0, job, 0), -2);
        for (int t : NO_TASK) s.due("path of " + t, x.path(t, 0, 0), -2);
        WatchStack wrong = on(task + "skip 0 job 0 node 0 times 9;hang 0 job 1 node 0 times 9;");
        for (int i = 0; i < 5; i++) s.due("if nothing goes wrong", wrong.path(0, 0, i), ways[0][i]);
    }

    private void answer() {
        s.says("Promise 18", "ANSWER of JOB job (0 .. 50) of a TASK to a QUESTION (0 .. 63), if nothing goes wrong."
                + " -2: there are none such.");
        WatchStack x = on(Texts.wide(60) + "node 1;node 1 after 0;node 1 after 0;" + Texts.wide(60) + "node 1;");
        // 0: 1, then 1: 7, 2: 8
        s.due("job 0", x.answer(0, 0, 0), 7);
        s.due("job 1", x.answer(0, 1, 0), 8);
        s.due("job 50", x.answer(0, 50, 0), 7);
        s.due("job 49", x.answer(0, 49, 0), 8);
        // 63: 316 - 256 = 60, then 1: 302 - 256 = 46
        s.due("QUESTION 63", x.answer(0, 0, 63), 46);
        s.due("one NODE", x.answer(1, 0, 63), 60);
        s.due("ANSWER 63", x.answer(1, 0, 38), 63);
        s.due("ANSWER 0", x.answer(1, 0, 51), 0);
        for (int q : new int[] {-1, 64, MIN_VALUE, MAX_VALUE}) s.due("QUESTION " + q, x.answer(0, 0, q), -2);
        for (int job : new int[] {-1, 51, MIN_VALUE, MAX_VALUE}) s.due("job " + job, x.answer(0, job, 0), -2);
        for (int t : NO_TASK) s.due("answer of " + t, x.answer(t, 0, 0), -2);
        WatchStack wrong = on(Texts.wide(60) + "node 1;node 1 after 0;wrong 0 job 0 times 9;skip 0 job 0 node 0 times 1;");
        s.due("if nothing goes wrong", wrong.answer(0, 0, 0), 7);
    }

    private void alike() {
        s.says("Promise 19", "How many pairs there are of its ways from NODE 0 to an end that have one ANSWER to a QUESTION."
                + " -2 likewise.");
        // q behind NODE 0: 1 4 makes 5 (5 q + 2) + 5 = 25 q + 15, 2: 5 q + 3, 3: 5 q + 4;
        // 20 q + 12 is 0 modulo 64 where q is 9 modulo 16, 20 q + 11 is odd
        WatchStack x = on(Texts.wide(60) + "node 1;node 1 after 0;node 1 after 0;node 1 after 0;node 1 after 1;"
                + Texts.wide(60) + "node 1;");
        for (int question = 0; question < 64; question++) {
            s.due("alike " + question, x.alike(0, question), (5 * question + 1) % 16 == 9 ? 1 : 0);
            s.due("one way", x.alike(1, question), 0);
        }
        // 15: behind 0 12; 1: 62; 2: 63, then 4: 320 = 0; 3: 64 = 0
        WatchStack y = on(Texts.wide(60) + "node 1;node 1 after 0;node 1 after 0;node 1 after 0;node 1 after 2;");
        s.due("one pair", y.alike(0, 15), 1);
        s.due("none", y.alike(0, 14), 0);
        s.due("QUESTION 0", y.alike(0, 0), 0);
        s.due("QUESTION 63", y.alike(0, 63), 1);
        for (int q : new int[] {-1, 64, MIN_VALUE, MAX_VALUE}) s.due("QUESTION " + q, y.alike(0, q), -2);
        for (int t : NO_TASK) s.due("alike of " + t, x.alike(t, 0), -2);
    }

    private void lawfulBits() {
        s.says("Promise 20", "LAWFUL TASKS, as bits. -2: there is no BOARD.");
        s.due("without a BOARD", new WatchStack().lawful(), -2);
        s.due("without TASKS", on("").lawful(), 0);
        String five = "";
        for (int t = 0; t < 5; t++) five += task(60, t % 2 == 0 ? 0 : 61, 120, 0, 40) + "node 1;";
        s.due("0, 2 and 4", on(five).lawful(), 21);
        s.due("all five", on(five.replace("open 61", "open 1")).lawful(), 31);
    }

    private void load() {
        s.says("Promise 21", "LONGEST / P of all TASKS as floats, added in order from 0: its bits (floatToIntBits)."
                + " -2: there is no BOARD.");
        s.due("without a BOARD", new WatchStack().load(), -2);
        s.due("without TASKS", on("").load(), 0);
        s.due("1", on(Texts.wide(4) + "node 4;").load(), Texts.bits(1f));
        s.due("above 1", on(Texts.wide(4) + "node 9;").load(), Texts.bits(2.25f));
        s.due("a power of two below 1", on(Texts.wide(8) + "node 1;").load(), Texts.bits(0.125f));
        int[] units = {1, 9, 7, 5, 3};
        int[] periods = {60, 7, 11, 13, 59};
        String five = "";
        float sum = 0f;
        for (int t = 0; t < 5; t++) {
            five += Texts.wide(periods[t]) + "node " + units[t] + ";";
            sum = sum + (float) units[t] / (float) periods[t];
            s.due("of " + (t + 1), on(five).load(), Texts.bits(sum));
        }
        // LONGEST, not SHORTEST
        s.due("LONGEST", on(Texts.wide(7) + FORK).load(), Texts.bits(1f));
    }
}
