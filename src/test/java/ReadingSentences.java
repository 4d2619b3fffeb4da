/** Terms I and the promises 1 to 9 and 54, sentence by sentence. */
final class ReadingSentences {
    private static final String SMALL = "board ticks 20 cycle 5 low 0;";
    private static final String ROOT = SMALL + "watcher root;";
    private static final String THREE = ROOT + "watcher under 0;watcher under 1;";
    private static final String TASK = "task under 0 period 4 open 0 close 1 least 0 most 0;";
    private static final String NODE = ROOT + TASK + "node 1;";
    private static final int[] FAR = {Integer.MIN_VALUE, Integer.MAX_VALUE};

    private final Sentences s;

    ReadingSentences(Sentences s) {
        this.s = s;
    }

    void run() {
        emptyBoard();
        lines();
        firstLine();
        boardNumbers();
        watchers();
        tasks();
        nodes();
        injections();
        tokens();
        firstByPlace();
        secondFault();
        thirdFault();
        fourthFault();
        noBoard();
        feed();
        end();
        board();
        boardRefused();
        fault();
        toldTasks();
        toldNodes();
        toldWatchers();
        toldInjections();
        count();
    }

    /** A text that is refused; a ^ stands ahead of the place of its fault. */
    private void flaw(int kind, String marked) {
        flaw(kind, marked.replace("^", ""), marked.indexOf('^'));
    }

    private void flaw(int kind, String text, int place) {
        WatchStack x = new WatchStack();
        s.due("feeding '" + text + "'", Check.feed(x, text) ? 1 : 0, 1);
        s.due("board() of '" + text + "'", x.board(), -4);
        s.due("fault(0) of '" + text + "'", x.fault(0), kind);
        s.due("fault(1) of '" + text + "'", x.fault(1), place);
        s.due("count(7) behind '" + text + "'", x.count(7), 0);
    }

    private WatchStack sound(String text, int lines) {
        WatchStack x = new WatchStack();
        s.due("feeding '" + text + "'", Check.feed(x, text) ? 1 : 0, 1);
        s.due("board() of '" + text + "'", x.board(), lines);
        s.due("fault(0) of '" + text + "'", x.fault(0), 0);
        s.due("count(7) behind '" + text + "'", x.count(7), lines);
        return x;
    }

    // ------------------------------------------------------------ Terms I

    private void emptyBoard() {
        s.says("Terms", "I. BOARD: {LINE ;}.");
        sound("", 0);
        sound(" \n \n", 0);
        sound(SMALL, 1);
        flaw(1, "board ticks 20 cycle 5 low 0^");
        flaw(1, "^;");
        flaw(1, SMALL + "^;");
        flaw(1, SMALL + "watcher root^");
        String many = THREE;
        for (int t = 0; t < 3; t++) {
            many += TASK + "node 1;";
            for (int k = 1; k < 6; k++) many += "node 1 after 0;";
        }
        for (int i = 0; i < 8; i++) many += "sleep 0 tick 1;";
        s.due("length of many LINES", many.length() <= 1000 ? 1 : 0, 1);
        sound(many, 4 + 3 * 7 + 8);
    }

    private void lines() {
        s.says("Terms", "LINE: board ticks H cycle Y low N | watcher root | watcher under W"
                + " | task under W period P open A close B least L most M | node U [after K {K}]"
                + " | hang T job J node K times M | stop T job J node K times M | skip T job J node K times M"
                + " | slow T job J node K times M | wrong T job J times M | sleep W tick X.");
        line("", "board ticks 20 cycle 5 low 0", 1, false);
        line(SMALL, "watcher root", 2, false);
        line(ROOT, "watcher under 0", 3, false);
        line(ROOT, "task under 0 period 4 open 0 close 1 least 0 most 0", 3, false);
        line(ROOT + TASK, "node 1", 4, false);
        line(NODE, "node 1 after 0", 5, true);
        line(NODE + "node 1 after 0;", "node 1 after 1 0", 6, true);
        line(NODE, "hang 0 job 0 node 0 times 1", 5, false);
        line(NODE, "stop 0 job 0 node 0 times 1", 5, false);
        line(NODE, "skip 0 job 0 node 0 times 1", 5, false);
        line(NODE, "slow 0 job 0 node 0 times 1", 5, false);
        line(NODE, "wrong 0 job 0 times 1", 5, false);
        line(NODE, "sleep 0 tick 0", 5, false);
    }

    /** A LINE as it is told; cut ahead of each of its TOKENS; with another one in place of each. */
    private void line(String ahead, String line, int lines, boolean openEnd) {
        sound(ahead + line + ";" + (line.startsWith("task") ? "node 1;" : ""),
                lines + (line.startsWith("task") ? 1 : 0));
        String[] tokens = line.split(" ");
        String head = ahead;
        for (int i = 0; i < tokens.length; i++) {
            boolean word = tokens[i].charAt(0) >= 'a';
            String rest = line.substring(head.length() - ahead.length() + tokens[i].length()) + ";";
            if (i > 0) flaw(1, head + "^");
            if (!openEnd || i < 4) flaw(1, head + "^;");
            flaw(1, head + "^other" + rest);
            if (word) {
                flaw(1, head + "^" + tokens[i] + "x" + rest);
                flaw(1, head + "^z" + tokens[i].substring(1) + rest);
                flaw(1, head + "^" + tokens[i].substring(0, tokens[i].length() - 1) + "z" + rest);
                flaw(1, head + "^" + tokens[i].substring(1) + rest);
            }
            flaw(1, head + "^" + (word ? "0" : "x") + rest);
            head += tokens[i] + (i + 1 < tokens.length ? " " : "");
        }
        flaw(1, head + " ^other;");
        flaw(1, head + " ^sleep 0 tick 0;");
        if (!openEnd) flaw(1, head + " ^0;");
    }

    private void firstLine() {
        s.says("Terms", "board is the first LINE and no other:");
        flaw(1, "^watcher root;" + SMALL);
        flaw(1, "^" + TASK);
        flaw(1, "^node 1;");
        flaw(1, "^hang 0 job 0 node 0 times 1;");
        flaw(1, "^sleep 0 tick 0;");
        flaw(1, SMALL + "^" + SMALL);
        flaw(1, NODE + "^" + SMALL);
        flaw(1, NODE + "^board");
    }

    private void boardNumbers() {
        s.says("Terms", "H 20 .. 200, Y 5 .. 50, N 0 .. 9.");
        flaw(2, "board ticks ^19 cycle 5 low 0;");
        s.due("H", sound("board ticks 20 cycle 5 low 0;", 1).count(0), 20);
        s.due("H", sound("board ticks 200 cycle 5 low 0;", 1).count(0), 200);
        flaw(2, "board ticks ^201 cycle 5 low 0;");
        flaw(2, "board ticks 20 cycle ^4 low 0;");
        s.due("Y", sound("board ticks 20 cycle 5 low 0;", 1).count(1), 5);
        s.due("Y", sound("board ticks 20 cycle 50 low 0;", 1).count(1), 50);
        flaw(2, "board ticks 20 cycle ^51 low 0;");
        s.due("N", sound("board ticks 20 cycle 5 low 0;", 1).count(2), 0);
        s.due("N", sound("board ticks 20 cycle 5 low 9;", 1).count(2), 9);
        flaw(2, "board ticks 20 cycle 5 low ^10;");
        flaw(2, "board ticks ^0 cycle 5 low 0;");
    }

    private void watchers() {
        s.says("Terms", "WATCHERS 0 .. 2 as they stand: 0 is root and no other, W one told ahead.");
        flaw(1, SMALL + "watcher ^under 0;");
        flaw(1, ROOT + "watcher ^root;");
        flaw(1, ROOT + "watcher under 0;watcher ^root;");
        flaw(2, ROOT + "watcher under ^1;");
        flaw(2, ROOT + "watcher under 0;watcher under ^2;");
        WatchStack x = sound(NODE + "watcher under 0;sleep 1 tick 3;watcher under 1;", 7);
        s.due("watcher(0)", x.watcher(0), -1);
        s.due("watcher(1)", x.watcher(1), 0);
        s.due("watcher(2)", x.watcher(2), 1);
        s.due("watcher(2)", sound(ROOT + "watcher under 0;watcher under 0;", 4).watcher(2), 0);
        flaw(2, SMALL + "task under ^0 period 4 open 0 close 1 least 0 most 0;");
        flaw(2, ROOT + "task under ^1 period 4 open 0 close 1 least 0 most 0;watcher under 0;");
        s.due("W", sound(THREE + "task under 2 period 4 open 0 close 1 least 0 most 0;node 1;", 6).task(0, 0), 2);
    }

    private void tasks() {
        s.says("Terms", "TASKS 0 .. 4: P 4 .. 60, A 0 .. 99, B A and 1 .. 120, L 0 .. 20, M L .. 40.");
        flaw(2, ROOT + "task under 0 period ^3 open 0 close 1 least 0 most 0;");
        bounds(Texts.task(0, 4, 0, 1, 0, 0));
        bounds(Texts.task(0, 60, 99, 120, 20, 40));
        flaw(2, ROOT + "task under 0 period ^61 open 0 close 1 least 0 most 0;");
        flaw(2, ROOT + "task under 0 period 4 open ^100 close 120 least 0 most 0;");
        bounds(Texts.task(0, 4, 99, 100, 0, 0));
        flaw(2, ROOT + "task under 0 period 4 open 0 close ^0 least 0 most 0;");
        flaw(2, ROOT + "task under 0 period 4 open 99 close ^99 least 0 most 0;");
        flaw(2, ROOT + "task under 0 period 4 open 99 close ^98 least 0 most 0;");
        flaw(2, ROOT + "task under 0 period 4 open 99 close ^121 least 0 most 0;");
        flaw(2, ROOT + "task under 0 period 4 open 0 close 1 least ^21 most 40;");
        flaw(2, ROOT + "task under 0 period 4 open 0 close 1 least 5 most ^4;");
        bounds(Texts.task(0, 4, 0, 1, 5, 5));
        bounds(Texts.task(0, 4, 0, 1, 20, 20));
        flaw(2, ROOT + "task under 0 period 4 open 0 close 1 least 0 most ^41;");
        s.due("TASKS", sound(ROOT + five(), 12).count(4), 5);
    }

    private void bounds(String task) {
        WatchStack x = sound(ROOT + task + "node 1;", 4);
        String[] tokens = task.replace(";", "").split(" ");
        for (int what = 0; what < 6; what++) {
            s.due("what " + what + " of " + task, x.task(0, what), Integer.parseInt(tokens[2 + 2 * what]));
        }
    }

    private static String five() {
        String text = "";
        for (int t = 0; t < 5; t++) text += TASK + "node 1;";
        return text;
    }

    private void nodes() {
        s.says("Terms", "A node is of the latest TASK: U 1 .. 9; NODES 0 .. 5 of each; NODE 0 without after,"
                + " each other one with: K one of its TASK ahead of it, each once.");
        flaw(2, ROOT + TASK + "node ^0;");
        s.due("U", sound(ROOT + TASK + "node 1;", 4).node(0, 0, 0), 1);
        s.due("U", sound(ROOT + TASK + "node 9;", 4).node(0, 0, 0), 9);
        flaw(2, ROOT + TASK + "node ^10;");
        flaw(2, NODE + "node ^0 after 0;");
        flaw(2, NODE + "node ^10 after 0;");
        flaw(1, ROOT + TASK + "node 1 ^after 0;");
        flaw(1, NODE + "node 1^;");
        flaw(1, NODE + "node 1 after 0;node 1^;");
        flaw(1, NODE + TASK + "node 1 ^after 0;");
        flaw(2, NODE + "node 1 after ^1;");
        flaw(2, NODE + "node 1 after 0;node 1 after ^2;");
        flaw(2, NODE + "node 1 after 0;node 1 after 0 ^2;");
        flaw(2, NODE + "node 1 after 0 ^0;");
        flaw(2, NODE + "node 1 after 0;node 1 after 1 0 ^1;");
        flaw(2, NODE + "node 1 after 0;node 1 after 0 1 ^0;");
        // the second TASK's NODES are its own: the first one's are none of them
        flaw(2, NODE + "node 1 after 0;" + TASK + "node 1;node 1 after ^1;");
        WatchStack x = sound(NODE + "node 2 after 0;" + TASK + "node 3;node 4 after 0;node 5 after 1 0;", 9);
        s.due("NODES of 0", x.task(0, 6), 2);
        s.due("NODES of 1", x.task(1, 6), 3);
        s.due("units", x.node(1, 2, 0), 5);
        s.due("SUCCESSORS", x.node(1, 0, 1), 6);
        s.due("SUCCESSORS", x.node(1, 1, 1), 4);
        s.due("SUCCESSORS", x.node(0, 0, 1), 2);
        WatchStack six = sound(ROOT + TASK + "node 1;node 1 after 0;node 1 after 0 1;node 1 after 2 1 0;"
                + "node 1 after 0 1 2 3;node 1 after 4 3 2 1 0;", 9);
        s.due("NODES", six.task(0, 6), 6);
        s.due("SUCCESSORS", six.node(0, 0, 1), 62);
    }

    private void injections() {
        s.says("Terms", "The others are INJECTIONS 0 .. 7: T a TASK told ahead that has a NODE, J 0 .. 50,"
                + " K one of its NODES told ahead, M 1 .. 9, W a WATCHER told ahead, X 0 .. 199.");
        for (String kind : new String[] {"hang", "stop", "skip", "slow"}) {
            flaw(2, SMALL + kind + " ^0 job 0 node 0 times 1;");
            flaw(2, ROOT + TASK + kind + " ^0 job 0 node 0 times 1;node 1;");
            flaw(2, NODE + kind + " ^1 job 0 node 0 times 1;" + TASK + "node 1;");
            flaw(2, NODE + TASK + kind + " ^1 job 0 node 0 times 1;node 1;");
            flaw(2, NODE + kind + " 0 job ^51 node 0 times 1;");
            flaw(2, NODE + kind + " 0 job 50 node ^1 times 1;node 1 after 0;");
            flaw(2, NODE + kind + " 0 job 50 node 0 times ^0;");
            flaw(2, NODE + kind + " 0 job 50 node 0 times ^10;");
            told(NODE + kind + " 0 job 0 node 0 times 1;", 5, 0, 0, 1);
            told(NODE + "node 1 after 0;" + kind + " 0 job 50 node 1 times 9;", 6, 50, 1, 9);
        }
        flaw(2, ROOT + TASK + "wrong ^0 job 0 times 1;");
        flaw(2, NODE + "wrong ^1 job 0 times 1;");
        flaw(2, NODE + "wrong 0 job ^51 times 1;");
        flaw(2, NODE + "wrong 0 job 0 times ^0;");
        flaw(2, NODE + "wrong 0 job 0 times ^10;");
        told(NODE + "wrong 0 job 0 times 1;", 5, 0, -1, 1);
        told(NODE + "wrong 0 job 50 times 9;", 5, 50, -1, 9);
        flaw(2, SMALL + "sleep ^0 tick 0;");
        flaw(2, ROOT + "sleep ^1 tick 0;watcher under 0;");
        flaw(2, ROOT + "sleep 0 tick ^200;");
        told(ROOT + "sleep 0 tick 0;", 3, 0, -1, -1);
        told(ROOT + "sleep 0 tick 199;", 3, 199, -1, -1);
        s.due("INJECTIONS", sound(ROOT + eight(), 10).count(5), 8);
    }

    private void told(String text, int lines, int j, int k, int m) {
        WatchStack x = sound(text, lines);
        s.due("J of " + text, x.injection(0, 2), j);
        s.due("K of " + text, x.injection(0, 3), k);
        s.due("M of " + text, x.injection(0, 4), m);
    }

    private static String eight() {
        String text = "";
        for (int i = 0; i < 8; i++) text += "sleep 0 tick " + i + ";";
        return text;
    }

    private void tokens() {
        s.says("Terms", "TOKENS, blanks (32, 10) aside, the longest: words (a .. z), numbers (digits), the sign ; .");
        for (int i = 0; i < 256; i++) {
            String sign = "" + (char) i;
            boolean blank = i == 32 || i == 10;
            boolean letter = i >= 'a' && i <= 'z';
            if (blank) {
                sound("board" + sign + SMALL.substring(6), 1);
                sound(SMALL.replace("20 ", "20" + sign), 1);
            } else {
                // a letter makes one longer word, each other sign stands behind the word
                flaw(1, "board" + sign + SMALL.substring(6), letter ? 0 : 5);
                flaw(1, "board " + sign + " " + SMALL.substring(6), 6);
            }
            if (i >= '0' && i <= '9') {
                // a digit makes one longer number
                s.due("N of 0 and " + sign, sound(SMALL.replace("low 0", "low 0" + sign), 1).count(2), i - '0');
            } else if (!blank) {
                flaw(1, SMALL.replace("20 ", "20" + sign), 14);
            }
        }
        sound("\n\n  board\nticks20cycle5low0;watcher  root\n;task under0period4open0close1least0most0;node1;\n", 4);
        sound("board ticks 0000000020 cycle 000000000000000000000000000000000005 low 00;", 1);
        flaw(2, "board ticks ^2 0 cycle 5 low 0;");
        flaw(2, "board ticks ^2\n0 cycle 5 low 0;");
        flaw(1, "board ticks 20 ^0 cycle 5 low 0;");
        flaw(1, "^boardticks 20 cycle 5 low 0;");
        flaw(1, "^bo ard ticks 20 cycle 5 low 0;");
        flaw(1, "board ^tick s 20 cycle 5 low 0;");
    }

    private void firstByPlace() {
        s.says("Terms", "FAULTS, the first by its place (a TOKEN's first byte; the end's), of one place the least:"
                + " 1 a TOKEN that is none, or can't stand there (board behind the first LINE, another word ahead of it;"
                + " a node ahead of any task; after at NODE 0, none at others).");
        flaw(2, "board ticks ^19 cycle 4 low 10;-;board");
        flaw(1, "board ^- ticks 19 cycle 4 low 10;");
        flaw(2, "board ticks 20 cycle ^1000000000000 low A;");
        flaw(1, "board ^ticksandmore 19 cycle 5 low 0;");
        // the end's place is how many bytes the tape has
        flaw(1, "board^");
        flaw(1, "board   ^");
        flaw(1, "board ticks 20 cycle 5 low 0\n^");
        flaw(1, "board ticks 20^");
        // a number that can't stand there is out of its bounds as well, a fourth watcher can't stand there either
        flaw(1, "board ^999 ticks 20 cycle 5 low 0;");
        flaw(1, THREE + "task under ^watcher root;");
        flaw(1, THREE + five() + "sleep ^task;");
        flaw(1, ROOT + eight() + "watcher ^sleep 0 tick 1;");
        flaw(1, SMALL + "^board ticks 20 cycle 5 low 0;");
        flaw(1, "^low 0;");
        flaw(1, "^7;");
        flaw(1, "^?;");
        flaw(1, SMALL + "^node 1;");
        flaw(1, ROOT + "^node 1;" + TASK);
        flaw(1, ROOT + TASK + "node 1 ^after 0;");
        flaw(1, NODE + "node 1^;");
        flaw(1, NODE + "node 1 ^");
    }

    private void secondFault() {
        s.says("Terms", "2 a number out of its bounds, not as said.");
        flaw(2, "board ticks ^4294967316 cycle 5 low 0;");
        flaw(2, "board ticks ^18446744073709551636 cycle 5 low 0;");
        flaw(2, "board ticks 20 cycle ^99999999999999999999999999999999999 low 0;");
        flaw(2, ROOT + "watcher under ^4294967296;");
        flaw(2, NODE + "node 1 after ^4294967296;");
        flaw(2, NODE + "sleep 0 tick ^2147483648;");
        // not as said: K is of its TASK, but not ahead, not once; T is a TASK, but has no NODE
        flaw(2, NODE + "node 1 after ^1;");
        flaw(2, NODE + "node 1 after 0 ^0;");
        flaw(2, NODE + TASK + "slow ^1 job 0 node 0 times 1;");
    }

    private void thirdFault() {
        s.says("Terms", "3 a fourth watcher, a sixth task, a seventh node, a ninth INJECTION, at its word.");
        flaw(3, THREE + "^watcher under 0;");
        flaw(3, THREE + "^watcher");
        flaw(3, THREE + "^watcher 7");
        flaw(3, ROOT + five() + "^" + TASK);
        flaw(3, ROOT + five() + "^task ;");
        String six = NODE;
        for (int k = 1; k < 6; k++) six += "node 1 after 0;";
        sound(six, 9);
        flaw(3, six + "^node 1 after 0;");
        flaw(3, six + "^node 99");
        sound(six + TASK + "node 1;", 11);
        for (String kind : Model.KINDS) {
            flaw(3, NODE + eight() + "^" + kind + " 0 job 0 times 1;");
            flaw(3, NODE + eight() + "^" + kind);
            // as one of eight it stands
            flaw(1, NODE + eight().replace("sleep 0 tick 7;", "") + kind + "^");
        }
        flaw(1, NODE + eight() + "^other;");
    }

    private void fourthFault() {
        s.says("Terms", "4 if there is none else: a TASK without a NODE (its number in place of the place; the first).");
        flaw(4, ROOT + TASK, 0);
        flaw(4, NODE + TASK, 1);
        flaw(4, ROOT + TASK + TASK + "node 1;", 0);
        flaw(4, NODE + TASK + TASK + "node 1;" + TASK, 1);
        flaw(4, NODE + TASK + "node 1;" + TASK + "node 1;" + TASK + "node 1;" + TASK, 4);
        flaw(2, ROOT + TASK + "watcher under ^1;");
        flaw(1, ROOT + TASK + "watcher under 0^");
        flaw(3, THREE + TASK + "^watcher under 0;");
    }

    // ------------------------------------------------------------ promises 1 to 9

    private void noBoard() {
        s.says("Promise 1", "No BOARD.");
        WatchStack x = new WatchStack();
        for (int what = 0; what <= 8; what++) s.due("count(" + what + ")", x.count(what), 0);
        s.due("task", x.task(0, 0), -2);
        s.due("node", x.node(0, 0, 0), -2);
        s.due("watcher", x.watcher(0), -2);
        s.due("injection", x.injection(0, 0), -2);
        s.due("cost", x.cost(0, 0), -2);
        s.due("ways", x.ways(0), -2);
        s.due("response", x.response(0), -2);
        s.due("least", x.least(0, 0), -2);
        s.due("room", x.room(0), -2);
        s.due("orders", x.orders(), -2);
        s.due("order", x.order(0), -2);
        s.due("path", x.path(0, 0, 0), -2);
        s.due("answer", x.answer(0, 0, 0), -2);
        s.due("alike", x.alike(0, 0), -2);
        s.due("lawful", x.lawful(), -2);
        s.due("load", x.load(), -2);
        s.due("had", x.had(0), -2);
        s.due("idle", x.idle(0), -2);
        s.due("kicks", x.kicks(0, 0), -2);
        s.due("kicked", x.kicked(0, 0), -2);
        s.due("gap", x.gap(0, 0), -2);
        s.due("jobs", x.jobs(0, 0), -2);
        s.due("at", x.at(0, 0), -2);
        s.due("question", x.question(0, 0), -2);
        s.due("start", x.start(0, 0), -2);
        s.due("memory", x.memory(0, 0), -2);
        s.due("health", x.health(0, 0), -2);
        s.due("tenths", x.tenths(0, 0), -2);
        s.due("margin", x.margin(0, 0), -2);
        s.due("mean", x.mean(0, 0), -2);
        s.due("faults", x.faults(0), -2);
        s.due("record", x.record(0, 0), -2);
        s.due("ledger", x.ledger(0), -2);
        s.due("kinds", x.kinds(1), -2);
        s.due("levels", x.levels(0, 0), -2);
        s.due("halts", x.halts(), -2);
        s.due("sleeps", x.sleeps(0, 0), -2);
        s.due("caught", x.caught(0), -2);
        s.due("without", x.without(0), -2);
        s.due("blame", x.blame(), -2);
        s.due("with", x.with(0, 0, 1), -2);
        s.due("tight", x.tight(0), -2);
        s.due("loose", x.loose(0), -2);
        s.due("longest", x.longest(0, 0), -2);
        s.due("silent", x.silent(0, 0), -2);
        for (int kind = 0; kind < 4; kind++) s.due("inject", x.inject(kind, 0, 0, 0, 1), -2);
        s.due("inject", x.inject(4, 0, 0, 0, 1), -2);
        s.due("inject", x.inject(5, 0, 0, 0, 0), -2);
        s.due("undo", x.undo(), -2);
        s.due("anew", x.anew(), -2);
        for (int k = 0; k < 3; k++) s.due("back", x.back(k), -6);
    }

    private void feed() {
        s.says("Promise 2", "Twenty bytes come behind the TAPE, four of each number, the highest first: how many it has;"
                + " NONE, and none come, if it would have more than 1,000.");
        WatchStack x = new WatchStack();
        for (int i = 1; i <= 50; i++) s.due("feed " + i, x.feed(0x20202020, -1, 0x7FFFFFFF, 1 << 31, i), 20 * i);
        s.due("feed 51", x.feed(0, 0, 0, 0, 0), -1);
        s.due("count(8)", x.count(8), 1000);
        s.due("end(981)", x.end(981), 981);
        s.due("it would have 1,001", x.feed(0, 0, 0, 0, 0), -1);
        s.due("none come", x.count(8), 981);
        s.due("end(980)", x.end(980), 980);
        s.due("it has 1,000", x.feed(0, 0, 0, 0, 0), 1000);
        s.due("board()", x.board(), -4);
        s.due("fault(1)", x.fault(1), 4);
        // 'boar' 'd ti' 'cks ' '20 c' 'ycle' ' 5 l' 'ow 0' ';   ' '    ' '    '
        s.due("feed", x.feed(0x626F6172, 0x64207469, 0x636B7320, 0x32302063, 0x79636C65), 20);
        s.due("feed", x.feed(0x2035206C, 0x6F772030, 0x3B202020, 0x20202020, 0x0A0A0A0A), 40);
        s.due("board()", x.board(), 1);
        // each byte of each number stands at its place, the highest first
        for (int at = 0; at < 20; at++) {
            int[] five = new int[5];
            java.util.Arrays.fill(five, 0x20202020);
            five[at / 4] ^= 0xDF << (24 - at % 4 * 8);
            s.due("end(0)", x.end(0), 0);
            s.due("feed", x.feed(five[0], five[1], five[2], five[3], five[4]), 20);
            s.due("board()", x.board(), -4);
            s.due("place of byte 255", x.fault(1), at);
        }
    }

    private void end() {
        s.says("Promise 3", "The TAPE has its first n bytes alone: n; NONE, and nothing happens,"
                + " if it has not so many, or n is below 0.");
        WatchStack x = new WatchStack();
        s.due("end(0)", x.end(0), 0);
        s.due("end(1)", x.end(1), -1);
        s.due("feed", x.feed(0, 0, 0, 0, 0), 20);
        s.due("end(21)", x.end(21), -1);
        s.due("end(-1)", x.end(-1), -1);
        for (int n : FAR) s.due("end " + n, x.end(n), -1);
        s.due("nothing happened", x.count(8), 20);
        s.due("end(20)", x.end(20), 20);
        s.due("end(19)", x.end(19), 19);
        s.due("end(20)", x.end(20), -1);
        s.due("count(8)", x.count(8), 19);
        s.due("end(1)", x.end(1), 1);
        s.due("end(0)", x.end(0), 0);
        s.due("count(8)", x.count(8), 0);
        // what comes behind comes at the end
        Check.feed(x, "board ticks 20 cycle 5 low 77777777");
        s.due("end(27)", x.end(27), 27);
        Check.feed(x, "3;");
        s.due("board()", x.board(), 1);
        s.due("N", x.count(2), 3);
    }

    private void board() {
        s.says("Promise 4", "The TAPE (empty then) is the BOARD (in place of another), no acts:"
                + " how many LINES (0: there is none then).");
        WatchStack x = new WatchStack();
        s.due("board() of an empty TAPE", x.board(), 0);
        Check.feed(x, NODE + "wrong 0 job 0 times 1;");
        s.due("board()", x.board(), 5);
        s.due("the TAPE is empty", x.count(8), 0);
        s.due("end(1)", x.end(1), -1);
        s.due("an act", x.inject(5, 0, 0, 0, 0) >= 0 ? 1 : 0, 1);
        s.due("acts", x.count(6), 1);
        Check.feed(x, "board ticks 30 cycle 6 low 1;watcher root;");
        s.due("board() in place of another", x.board(), 2);
        int[] counts = {30, 6, 1, 1, 0, 0, 0, 2, 0};
        for (int what = 0; what < 9; what++) s.due("count(" + what + ")", x.count(what), counts[what]);
        s.due("injection(0, 0)", x.injection(0, 0), -2);
        s.due("task(0, 0)", x.task(0, 0), -2);
        s.due("board() of an empty TAPE", x.board(), 0);
        s.due("lawful() of none", x.lawful(), -2);
        s.due("faults(0) of none", x.faults(0), -2);
        for (int what = 0; what < 9; what++) s.due("count(" + what + ")", x.count(what), 0);
        Check.feed(x, NODE);
        s.due("board()", x.board(), 4);
        Check.feed(x, "\n ");
        s.due("board() of blanks", x.board(), 0);
        s.due("lawful() of none", x.lawful(), -2);
        inPlaceOfAnother();
    }

    /** Nothing of the BOARD that was there, nor of one that was refused, is left in the next one. */
    private void inPlaceOfAnother() {
        String five = ROOT + "watcher under 0;watcher under 1;" + Texts.task(2, 9, 5, 9, 1, 1) + "node 9;node 9 after 0;"
                + "node 9 after 0 1;node 9 after 0 1 2;" + Texts.wide(8) + "node 7;node 1 after 0;sleep 0 tick 4;sleep 1 tick 9;";
        String two = "board ticks 40 cycle 20 low 3;watcher root;watcher under 0;" + Texts.wide(10) + "node 1;node 2 after 0;"
                + "node 3 after 1;node 4 after 1;wrong 0 job 1 times 1;";
        WatchStack x = Check.on(five);
        s.due("an act", x.inject(5, 2, 4, 0, 0) >= 0 ? 1 : 0, 1);
        Check.feed(x, five + "node;");
        s.due("one that is refused", x.board(), -4);
        Check.feed(x, two);
        s.due("board()", x.board(), 9);
        int[] counts = {40, 20, 3, 2, 1, 1, 0, 9, 0};
        for (int what = 0; what < 9; what++) s.due("count(" + what + ")", x.count(what), counts[what]);
        int[] bits = {2, 12, 0, 0};
        for (int k = 0; k < 4; k++) {
            s.due("units " + k, x.node(0, k, 0), k + 1);
            s.due("SUCCESSORS " + k, x.node(0, k, 1), bits[k]);
        }
        s.due("LONGEST", x.cost(0, 1), 7);
        s.due("ways", x.ways(0), 2);
        s.due("WATCHER", x.task(0, 0), 0);
        s.due("watcher(2)", x.watcher(2), -2);
        s.due("task(1, 0)", x.task(1, 0), -2);
        s.due("injection(1, 0)", x.injection(1, 0), -2);
        // job 1 goes over NODE 3: 1, 2 and 4 units
        s.records(x, new int[] {16, 4, 0, 0});
        s.due("sleeps", x.sleeps(0, 9), 0);
    }

    private void boardRefused() {
        s.says("Promise 4", "-4: a FAULT (the TAPE is empty, all else stays).");
        WatchStack x = Check.on(ROOT + Texts.wide(4) + "node 1;wrong 0 job 0 times 1;");
        s.due("an act", x.inject(4, 0, 2, 0, 1), 2);
        s.due("image(0)", x.image(0), 0);
        s.due("an act more", x.inject(4, 0, 4, 0, 1), 3);
        Check.feed(x, "board ticks 20 cycle 5 low 0;watcher root;sleep 0 tick 3;node 4;");
        s.due("board()", x.board(), -4);
        s.due("the TAPE is empty", x.count(8), 0);
        int[] counts = {20, 5, 0, 1, 1, 1, 2, 5, 0};
        for (int what = 0; what < 9; what++) s.due("count(" + what + ")", x.count(what), counts[what]);
        s.due("records", x.faults(20), 3);
        s.due("injection(0, 0)", x.injection(0, 0), 4);
        s.due("injection(2, 2)", x.injection(2, 2), 4);
        s.due("back(0)", x.back(0), 0);
        s.due("records", x.faults(20), 2);
        s.due("back(1)", x.back(1), -6);
    }

    private void fault() {
        s.says("Promise 5", "Of the latest board(), what 0: its FAULT, 0 without, 1: its place (NONE without)."
                + " NONE for another what, and ahead of any (what 1).");
        WatchStack x = new WatchStack();
        s.due("fault(0) ahead of any", x.fault(0), 0);
        s.due("fault(1) ahead of any", x.fault(1), -1);
        s.due("fault(2) ahead of any", x.fault(2), -1);
        Check.feed(x, "board ticks 19");
        s.due("fault(0) ahead of board()", x.fault(0), 0);
        s.due("board()", x.board(), -4);
        for (int asked = 0; asked < 2; asked++) {
            s.due("fault(0)", x.fault(0), 2);
            s.due("fault(1)", x.fault(1), 12);
            s.due("fault(2)", x.fault(2), -1);
            s.due("fault(-1)", x.fault(-1), -1);
            for (int what : FAR) s.due("fault", x.fault(what), -1);
        }
        Check.feed(x, ROOT + TASK);
        s.due("the latest still", x.fault(0), 2);
        s.due("board()", x.board(), -4);
        s.due("fault(0)", x.fault(0), 4);
        s.due("fault(1)", x.fault(1), 0);
        Check.feed(x, SMALL);
        s.due("board()", x.board(), 1);
        s.due("fault(0) without", x.fault(0), 0);
        s.due("fault(1) without", x.fault(1), -1);
        s.due("fault(2) without", x.fault(2), -1);
        Check.feed(x, ";");
        s.due("board()", x.board(), -4);
        s.due("fault(0)", x.fault(0), 1);
        s.due("fault(1)", x.fault(1), 0);
        s.due("board() of an empty TAPE", x.board(), 0);
        s.due("fault(0) without", x.fault(0), 0);
        s.due("fault(1) without", x.fault(1), -1);
    }

    private static final String TOLD = "board ticks 77 cycle 11 low 4;watcher root;watcher under 0;watcher under 1;"
            + "task under 2 period 6 open 3 close 9 least 1 most 2;node 1;node 2 after 0;node 3 after 0 1;"
            + "task under 0 period 60 open 0 close 1 least 0 most 0;node 9;"
            + "hang 0 job 5 node 2 times 3;stop 0 job 6 node 1 times 4;skip 1 job 50 node 0 times 9;"
            + "slow 0 job 0 node 0 times 1;wrong 1 job 2 times 8;sleep 2 tick 199;";

    private void toldTasks() {
        s.says("Promise 6", "Of a TASK, what 0: its WATCHER, 1: P, 2: A, 3: B, 4: L, 5: M, 6: how many NODES."
                + " -2: there are none such.");
        WatchStack x = Check.on(TOLD);
        int[][] traits = {{2, 6, 3, 9, 1, 2, 3}, {0, 60, 0, 1, 0, 0, 1}};
        for (int t = 0; t < 2; t++) {
            for (int what = 0; what < 7; what++) s.due("task " + t + " " + what, x.task(t, what), traits[t][what]);
            s.due("what 7", x.task(t, 7), -2);
            s.due("what -1", x.task(t, -1), -2);
            for (int what : FAR) s.due("what " + what, x.task(t, what), -2);
        }
        for (int t : new int[] {-1, 2, 4, 5, FAR[0], FAR[1]}) s.due("task " + t, x.task(t, 0), -2);
    }

    private void toldNodes() {
        s.says("Promise 7", "Of a NODE of a TASK, what 0: its units, 1: its SUCCESSORS, as bits. -2 likewise.");
        WatchStack x = Check.on(TOLD);
        int[][] units = {{1, 2, 3}, {9}};
        int[][] bits = {{6, 4, 0}, {0}};
        for (int t = 0; t < 2; t++) {
            for (int k = 0; k < units[t].length; k++) {
                s.due("units " + t + " " + k, x.node(t, k, 0), units[t][k]);
                s.due("SUCCESSORS " + t + " " + k, x.node(t, k, 1), bits[t][k]);
                s.due("what 2", x.node(t, k, 2), -2);
                s.due("what -1", x.node(t, k, -1), -2);
            }
            s.due("a NODE it has not", x.node(t, units[t].length, 0), -2);
            for (int k : new int[] {-1, 6, FAR[0], FAR[1]}) s.due("node " + k, x.node(t, k, 1), -2);
        }
        for (int t : new int[] {-1, 2, 5, FAR[0], FAR[1]}) s.due("task " + t, x.node(t, 0, 0), -2);
        for (int what : FAR) s.due("what " + what, x.node(0, 0, what), -2);
    }

    private void toldWatchers() {
        s.says("Promise 8", "The WATCHER under which a WATCHER is. NONE: it is root; -2: there is none such.");
        WatchStack x = Check.on(TOLD);
        s.due("watcher(0)", x.watcher(0), -1);
        s.due("watcher(1)", x.watcher(1), 0);
        s.due("watcher(2)", x.watcher(2), 1);
        for (int w : new int[] {-1, 3, FAR[0], FAR[1]}) s.due("watcher " + w, x.watcher(w), -2);
        s.due("watcher(0) of none", Check.on(SMALL).watcher(0), -2);
        s.due("watcher(1) of one", Check.on(ROOT).watcher(1), -2);
    }

    private void toldInjections() {
        s.says("Promise 9", "Of an INJECTION (told, of acts behind these), what 0: its kind"
                + " (0 hang, 1 stop, 2 skip, 3 slow, 4 wrong, 5 sleep), 1: TASK or WATCHER, 2: J (of sleep X), 3: K,"
                + " 4: M (NONE: it has none such). -2: there are none such.");
        WatchStack x = Check.on(TOLD);
        int[][] told = {{0, 0, 5, 2, 3}, {1, 0, 6, 1, 4}, {2, 1, 50, 0, 9}, {3, 0, 0, 0, 1}, {4, 1, 2, -1, 8},
            {5, 2, 199, -1, -1}, {4, 0, 50, -1, 9}, {5, 1, 0, -1, -1}, {0, 0, 1, 2, 7}};
        rows(x, told, 6);
        x.inject(4, 0, 50, 0, 9);
        rows(x, told, 7);
        x.inject(5, 1, 0, 0, 0);
        x.inject(0, 0, 1, 2, 7);
        rows(x, told, 9);
        x.undo();
        rows(x, told, 8);
        x.anew();
        rows(x, told, 6);
    }

    private void rows(WatchStack x, int[][] told, int size) {
        for (int i = 0; i < size; i++) {
            for (int what = 0; what < 5; what++) {
                s.due("injection " + i + " " + what, x.injection(i, what), told[i][what]);
            }
        }
        for (int i : new int[] {-1, size, 18, 19, FAR[0], FAR[1]}) s.due("injection " + i, x.injection(i, 0), -2);
        for (int what : new int[] {-1, 5, FAR[0], FAR[1]}) s.due("what " + what, x.injection(0, what), -2);
    }

    private void count() {
        s.says("Promise 54", "0 H, 1 Y, 2 N, 3 WATCHERS, 4 TASKS, 5 INJECTIONS told, 6 acts, 7 LINES, 8 bytes of the TAPE."
                + " NONE for others.");
        WatchStack x = Check.on(TOLD);
        x.inject(5, 0, 0, 0, 0);
        x.feed(0, 0, 0, 0, 0);
        x.end(7);
        int[] counts = {77, 11, 4, 3, 2, 6, 1, 16, 7};
        for (int what = 0; what < 9; what++) s.due("count " + what, x.count(what), counts[what]);
        for (int what : new int[] {-1, 9, FAR[0], FAR[1]}) {
            s.due("count " + what, x.count(what), -1);
            s.due("count without a BOARD " + what, new WatchStack().count(what), -1);
        }
    }
}
