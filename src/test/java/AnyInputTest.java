/** Rule 7 of the language: no call throws, whatever the arguments, in whatever state. */
public final class AnyInputTest {
    private static final int[] ODD = {Integer.MIN_VALUE, Integer.MIN_VALUE + 1, -64, -2, -1, 0, 1, 2, 3, 4, 5, 6, 7, 9, 10,
        20, 40, 49, 50, 51, 63, 64, 99, 100, 119, 120, 121, 199, 200, 201, 1000, Integer.MAX_VALUE - 1, Integer.MAX_VALUE};

    private static final Check CHECK = new Check();

    public static void main(String[] args) {
        for (int seed = 0; seed < 300; seed++) {
            Boards boards = new Boards(5000000 + seed);
            WatchStack x = new WatchStack();
            for (int i = 0; i < 400; i++) {
                if (i % 60 == 20) {
                    String text = boards.below(5) == 0 ? boards.spoiled() : boards.board();
                    if (text.length() <= 900) {
                        x.end(0);
                        Check.feed(x, text);
                        x.board();
                    }
                }
                call(x, boards);
            }
        }
        onEachState();
        CHECK.end("AnyInputTest");
    }

    private static int odd(Boards boards) {
        return boards.below(2) == 0 ? boards.below(6) : ODD[boards.below(ODD.length)];
    }

    private static void call(WatchStack x, Boards boards) {
        int a = odd(boards);
        int b = odd(boards);
        int c = odd(boards);
        int d = odd(boards);
        int e = odd(boards);
        long got = call(x, boards.below(54), a, b, c, d, e);
        // a no is one of the document's, anything else is not below 0
        CHECK.due("answer " + got + " is in bounds", got >= -6 && got != -3 ? 1 : 0, 1);
    }

    private static void onEachState() {
        WatchStack empty = new WatchStack();
        WatchStack root = Check.on("board ticks 20 cycle 5 low 0;watcher root;");
        for (int which = 6; which < 54; which++) {
            for (int a : ODD) {
                for (int b : ODD) {
                    call(empty, which, a, b, 1, 0, 1);
                    call(root, which, a, b, 1, 0, 1);
                }
            }
        }
    }

    private static long call(WatchStack x, int which, int a, int b, int c, int d, int e) {
        switch (which) {
            case 0: return x.feed(a, b, c, d, e);
            case 1: return x.end(a);
            case 2: return x.board();
            case 3: return x.image(a);
            case 4: return x.back(a);
            case 5: return x.anew();
            case 6: return x.fault(a);
            case 7: return x.task(a, b);
            case 8: return x.node(a, b, c);
            case 9: return x.watcher(a);
            case 10: return x.injection(a, b);
            case 11: return x.cost(a, b);
            case 12: return x.ways(a);
            case 13: return x.response(a);
            case 14: return x.least(a, b);
            case 15: return x.room(a);
            case 16: return x.orders();
            case 17: return x.order(a);
            case 18: return x.path(a, b, c);
            case 19: return x.answer(a, b, c);
            case 20: return x.alike(a, b);
            case 21: return x.lawful();
            case 22: return x.load();
            case 23: return x.had(a);
            case 24: return x.idle(a);
            case 25: return x.kicks(a, b);
            case 26: return x.kicked(a, b);
            case 27: return x.gap(a, b);
            case 28: return x.jobs(a, b);
            case 29: return x.at(a, b);
            case 30: return x.question(a, b);
            case 31: return x.start(a, b);
            case 32: return x.memory(a, b);
            case 33: return x.health(a, b);
            case 34: return x.tenths(a, b);
            case 35: return x.margin(a, b);
            case 36: return x.mean(a, b);
            case 37: return x.faults(a);
            case 38: return x.record(a, b);
            case 39: return x.ledger(a);
            case 40: return x.kinds(a);
            case 41: return x.levels(a, b);
            case 42: return x.halts();
            case 43: return x.sleeps(a, b);
            case 44: return x.caught(a);
            case 45: return x.without(a);
            case 46: return x.blame();
            case 47: return x.with(a, b, c);
            case 48: return x.tight(a) + x.loose(a) * 0L;
            case 49: return x.longest(a, b);
            case 50: return x.silent(a, b);
            case 51: return x.inject(a, b, c, d, e);
            case 52: return x.undo();
            default: return x.count(a);
        }
    }
}
