import java.util.List;

/** WatchStack against the model of the tests, on many boards and their acts. */
public final class ModelTest {
    private static final Check CHECK = new Check();
    private static String told = "";

    private static void due(String call, long got, long want) {
        CHECK.due(got == want ? call : told + "\n  " + call, got, want);
    }

    public static void main(String[] args) {
        for (int seed = 0; seed < 20000; seed++) {
            compareReading(new Boards(seed));
        }
        for (int seed = 0; seed < 700; seed++) {
            Boards boards = new Boards(1000000 + seed);
            String text = boards.board();
            if (text.length() > 1000) continue;
            told = text;
            Model model = Model.of(text);
            WatchStack stack = Check.on(text);
            compareAll(stack, model, boards);
            act(stack, model, boards);
        }
        CHECK.end("ModelTest");
    }

    private static void compareReading(Boards boards) {
        String text = boards.spoiled();
        if (text.length() > 1000) return;
        told = text;
        Model model = Model.of(text);
        WatchStack stack = new WatchStack();
        Check.feed(stack, text);
        due("board()", stack.board(), model.fault == 0 ? model.lines : -4);
        due("fault(0)", stack.fault(0), model.fault);
        due("fault(1)", stack.fault(1), model.fault == 0 ? -1 : model.place);
        due("count(8)", stack.count(8), 0);
        due("count(7)", stack.count(7), model.lines);
    }

    private static void act(WatchStack stack, Model model, Boards boards) {
        int acts = 0;
        for (int i = 0; i < 5; i++) {
            int kind = boards.below(6);
            int who = kind == 5 ? boards.below(3) : boards.below(5);
            int j = boards.below(kind == 5 ? 200 : 8);
            int k = kind > 3 ? 0 : boards.below(4);
            int m = kind == 5 ? 0 : 1 + boards.below(3);
            boolean fits = kind == 5 ? who < model.over.size()
                    : who < model.tasks.size() && k < model.nodes.get(who).size();
            String call = "inject(" + kind + ", " + who + ", " + j + ", " + k + ", " + m + ")";
            int got = stack.inject(kind, who, j, k, m);
            if (!fits) {
                due(call, got, -2);
                continue;
            }
            acts++;
            model.injections.add(new int[] {kind, who, j, kind > 3 ? -1 : k, kind == 5 ? -1 : m});
            told += " " + call;
            due(call, got, model.run().records.size());
        }
        if (acts == 0) return;
        compareAll(stack, model, boards);
        due("undo()", stack.undo(), acts - 1);
        model.injections.remove(model.injections.size() - 1);
        told += " undo()";
        compareRun(stack, model);
    }

    private static void compareAll(WatchStack stack, Model model, Boards boards) {
        compareTold(stack, model);
        compareFlows(stack, model);
        compareLaw(stack, model);
        compareRun(stack, model);
        compareTrials(stack, model, boards);
    }

    private static void compareTold(WatchStack stack, Model model) {
        int[] counts = {model.h, model.y, model.n, model.over.size(), model.tasks.size(), model.told,
            model.injections.size() - model.told, model.lines, 0, -1};
        for (int what = 0; what < counts.length; what++) due("count " + what, stack.count(what), counts[what]);
        for (int w = -1; w < 4; w++) {
            due("watcher " + w, stack.watcher(w), w < 0 || w >= model.over.size() ? -2 : model.over.get(w));
        }
        for (int i = 0; i <= model.injections.size(); i++) {
            for (int what = -1; what < 6; what++) {
                boolean is = i < model.injections.size() && what >= 0 && what < 5;
                due("injection " + i + " " + what, stack.injection(i, what), is ? model.injections.get(i)[what] : -2);
            }
        }
        for (int t = 0; t < model.tasks.size(); t++) {
            for (int what = 0; what < 6; what++) due("task", stack.task(t, what), model.tasks.get(t)[what]);
            due("task 6", stack.task(t, 6), model.nodes.get(t).size());
            for (int k = 0; k < model.nodes.get(t).size(); k++) {
                int bits = 0;
                for (int s : model.successors(t, k)) bits |= 1 << s;
                due("node 0", stack.node(t, k, 0), model.nodes.get(t).get(k)[0]);
                due("node 1", stack.node(t, k, 1), bits);
            }
        }
    }

    private static void compareFlows(WatchStack stack, Model model) {
        for (int t = 0; t < model.tasks.size(); t++) {
            due("cost 0 " + t, stack.cost(t, 0), model.cost(t, false));
            due("cost 1 " + t, stack.cost(t, 1), model.cost(t, true));
            due("ways " + t, stack.ways(t), model.ways(t).size());
            for (int question = 0; question < 64; question += 7) {
                due("alike " + t, stack.alike(t, question), model.alike(t, question));
            }
            for (int job = 0; job <= 50; job += 1 + job / 7) {
                List<Integer> way = model.way(t, job);
                for (int i = 0; i < 8; i++) {
                    due("path", stack.path(t, job, i), i < way.size() ? way.get(i) : -1);
                }
                for (int question = 0; question < 64; question += 9) {
                    due("answer", stack.answer(t, job, question), Model.answer(way, question));
                }
            }
        }
    }

    private static void compareLaw(WatchStack stack, Model model) {
        due("lawful", stack.lawful(), model.lawful(-1, 0));
        due("load", stack.load(), Float.floatToIntBits(model.load()));
        List<List<Integer>> orders = model.orders();
        due("orders", stack.orders(), orders.size());
        for (int i = -1; i < 6; i++) {
            boolean is = i >= 0 && i < model.tasks.size() && !orders.isEmpty();
            due("order " + i, stack.order(i), is ? orders.get(0).get(i) : -1);
        }
        for (int t = 0; t < model.tasks.size(); t++) {
            due("response " + t, stack.response(t), model.response(Model.below(t), t, -1, 0));
            due("room " + t, stack.room(t), model.room(t));
            int[] bounds = model.bounds(Model.below(t), t, -1, 0);
            for (int what = 0; what < 4; what++) {
                due("least " + t + " " + what, stack.least(t, what), bounds == null ? -1 : bounds[what]);
            }
        }
    }

    private static void compareRun(WatchStack stack, Model model) {
        Model.Sim sim = model.run();
        due("halts", stack.halts(), sim.halt);
        int[] kinds = new int[8];
        for (int k = 0; k < sim.records.size(); k++) {
            for (int what = 0; what < 4; what++) {
                due("record " + k + " " + what, stack.record(k, what), sim.records.get(k)[what]);
            }
            kinds[sim.records.get(k)[1]]++;
        }
        due("record behind", stack.record(sim.records.size(), 0), -1);
        for (int kind = 1; kind <= 7; kind++) due("kinds " + kind, stack.kinds(kind), kinds[kind]);
        due("ledger 1", stack.ledger(1), kinds[6] + kinds[7]);
        due("ledger 0", stack.ledger(0), sim.records.size() - kinds[6] - kinds[7]);
        for (int i = 0; i < model.injections.size(); i++) {
            due("caught " + i, stack.caught(i), sim.caught(model.injections.get(i)));
        }
        for (int t = 0; t < model.tasks.size(); t++) {
            List<Integer> gaps = sim.gaps.get(t);
            for (int k = 0; k <= gaps.size(); k++) due("gap", stack.gap(t, k), k < gaps.size() ? gaps.get(k) : -1);
        }
        int idle = 0;
        for (int tick = 0; tick <= model.h; tick++) {
            due("idle " + tick, stack.idle(tick), idle);
            if (tick < model.h) {
                due("had " + tick, stack.had(tick), sim.had[tick]);
                if (sim.had[tick] < 0) idle++;
            }
            compareTick(stack, model, sim, tick);
        }
        due("had", stack.had(model.h), -2);
        due("idle", stack.idle(model.h + 1), -2);
    }

    private static void compareTick(WatchStack stack, Model model, Model.Sim sim, int tick) {
        int[] levels = new int[4];
        for (int[] r : sim.records) if (r[0] < tick) levels[r[3]]++;
        due("faults", stack.faults(tick), levels[0] + levels[1] + levels[2] + levels[3]);
        for (int level = 0; level < 4; level++) due("levels " + level, stack.levels(level, tick), levels[level]);
        for (int w = 0; w < model.over.size(); w++) due("sleeps " + w + " " + tick, stack.sleeps(w, tick), sim.asleep[w][tick]);
        for (int t = 0; t < model.tasks.size(); t++) {
            Model.Then then = sim.then[t][tick];
            String of = " " + t + " " + tick;
            due("at" + of, stack.at(t, tick), then.at());
            due("question" + of, stack.question(t, tick), then.question());
            due("start" + of, stack.start(t, tick), then.start());
            due("memory" + of, stack.memory(t, tick), then.memory());
            due("health" + of, stack.health(t, tick), Float.floatToIntBits(then.health()));
            due("tenths" + of, stack.tenths(t, tick), (int) (then.health() * 10f));
            due("jobs" + of, stack.jobs(t, tick), then.jobs());
            due("kicks" + of, stack.kicks(t, tick), then.kicks());
            due("kicked" + of, stack.kicked(t, tick), then.kicked());
            float least = Float.MAX_VALUE;
            double sum = 0;
            for (float margin : then.margins()) {
                least = Math.min(least, margin);
                sum += margin;
            }
            boolean none = then.margins().isEmpty();
            due("margin" + of, stack.margin(t, tick), none ? -1 : Float.floatToIntBits(least));
            due("mean" + of, stack.mean(t, tick), none ? -1 : Double.doubleToLongBits(sum / then.margins().size()));
        }
    }

    private static void compareTrials(WatchStack stack, Model model, Boards boards) {
        int total = model.run().records.size();
        int blamed = -1;
        int fewest = total;
        for (int i = 0; i < model.injections.size(); i++) {
            int left = model.recordsWithout(i);
            due("without " + i, stack.without(i), left);
            if (left < fewest) {
                fewest = left;
                blamed = i;
            }
        }
        due("blame", stack.blame(), blamed);
        for (int t = 0; t < model.tasks.size(); t++) {
            for (int i = 0; i < 3; i++) {
                int a = boards.below(100);
                int b = a + 1 + boards.below(Math.min(30, 120 - a));
                due("with", stack.with(t, a, b), model.recordsWith(t, a, b));
            }
            int a = model.tasks.get(t)[2];
            int b = model.tasks.get(t)[3];
            int tight = a + 1;
            while (model.recordsWith(t, a, tight) > total) tight++;
            due("tight " + t, stack.tight(t), tight);
            int loose = Math.min(99, b - 1);
            while (model.recordsWith(t, loose, b) > total) loose--;
            due("loose " + t, stack.loose(t), loose);
        }
        if (model.tasks.isEmpty()) return;
        int t = boards.below(model.tasks.size());
        int kind = boards.below(5);
        int[] probed = model.probe(t, kind);
        due("longest " + t + " " + kind, stack.longest(t, kind), probed[0]);
        due("silent " + t + " " + kind, stack.silent(t, kind), probed[1]);
    }
}
